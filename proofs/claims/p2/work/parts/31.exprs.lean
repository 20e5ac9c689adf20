def RE (X : jX) (k : Nat) : Prop := ∀ ⦃dd : Nat⦄ ⦃Vs : Nat → Prop⦄ ⦃sb : Int⦄ ⦃c0 c1 : jC⦄ ⦃G : Nat → Int⦄ ⦃A : Nat → Nat → Int⦄ ⦃T : jH⦄ ⦃ln le at0 fk op0 nd tk0 : Int⦄ (hd : 6 * k + 10 ≤ dd) (hW : Wk G A) (e_ln : G 9 = ln) (e_le : A 4 (ln).toNat = le) (e_at0 : G 10 = at0) (e_fk : G 16 = fk) (e_op0 : G 15 = op0) (e_nd : G 31 = nd) (e_tk0 : G 11 = tk0) (i_SV : SV Vs sb G A) (p_0 : 0 ≤ op0) (p_1 : op0 ≤ 9) (p_2 : op0 ≤ 8 ∨ 1 ≤ fk) (p_3 : 9 - op0 ≤ (k : Int) ∨ 1 ≤ fk) (p_4 : nd ≤ 2 * at0 - tz tk0 + 50) (p_5 : at0 ≤ le), wk X dd 286 [.ref 66] (rV c0 c1 G A T) (fun o V' => ∃ (G' : Nat → Int) (A' : Nat → Nat → Int) (r : Int) (at2 : Int) (fk2 : Int) (op2 : Int) (nd2 : Int) (tk2 : Int), V' = rV c0 c1 G' A' T ∧ o = .inl (some (.int (i32 r))) ∧ Wk G' A' ∧ Fr [10, 11, 12, 13, 14, 15, 16, 17, 18, 31] [15, 16, 17, 18, 19, 20, 21, 22, 24, 28] G A G' A' ∧ Pf nd A A' ∧ ((-2147483648 : Int) ≤ r ∧ r ≤ 2147483647) ∧ G' 10 = at2 ∧ G' 16 = fk2 ∧ G' 15 = op2 ∧ G' 31 = nd2 ∧ G' 11 = tk2 ∧ (at0 ≤ at2) ∧ (at2 ≤ le) ∧ (nd ≤ nd2) ∧ (op2 = op0) ∧ (0 ≤ r) ∧ (r ≤ nd2) ∧ (((1 ≤ fk) ∧ (1 ≤ fk2) ∧ (nd2 = nd) ∧ (at2 = at0) ∧ (tk2 = tk0) ∧ (tz tk2 = tz tk0)) ∨ ((fk = 0) ∧ (1 ≤ fk2) ∧ (nd2 - nd ≤ (2 * at2 - tz tk2) - (2 * at0 - tz tk0) + 1)) ∨ ((fk = 0) ∧ (fk2 = 0) ∧ (nd2 - nd ≤ (2 * at2 - tz tk2) - (2 * at0 - tz tk0)) ∧ (wE A' Vs sb (2 * k + 2) (r) (nd) (nd2)))))
set_option maxRecDepth 20000 in
set_option maxHeartbeats 4000000 in
theorem c_readIndex {X : jX} {k : Nat} (hE : RE X k) {dd : Nat} {Vs : Nat → Prop} {sb : Int} {c0 c1 : jC} {G : Nat → Int} {A : Nat → Nat → Int} {T : jH} {ln le at0 fk op0 nd tk0 : Int} (hd : 6 * k + 12 ≤ dd) (hW : Wk G A) (e_ln : G 9 = ln) (e_le : A 4 (ln).toNat = le) (e_at0 : G 10 = at0) (e_fk : G 16 = fk) (e_op0 : G 15 = op0) (e_nd : G 31 = nd) (e_tk0 : G 11 = tk0) (i_SV : SV Vs sb G A) (p_0 : 0 ≤ op0) (p_1 : op0 ≤ 9) (p_2 : op0 ≤ 8 ∨ 1 ≤ fk) (p_3 : 9 - op0 ≤ ((k + 1 : Nat) : Int) ∨ 1 ≤ fk) (p_4 : nd ≤ 2 * at0 - tz tk0 + 50) (p_5 : at0 ≤ le) (p_6 : 1 ≤ tk0) (p_7 : op0 ≤ 8) (p_8 : fk = 0) : wk X dd 284 [.ref 66] (rV c0 c1 G A T) (fun o V' => ∃ (G' : Nat → Int) (A' : Nat → Nat → Int) (r : Int) (at2 : Int) (fk2 : Int) (op2 : Int) (nd2 : Int) (tk2 : Int), V' = rV c0 c1 G' A' T ∧ o = .inl (some (.int (i32 r))) ∧ Wk G' A' ∧ Fr [10, 11, 12, 13, 14, 15, 16, 17, 18, 31] [15, 16, 17, 18, 19, 20, 21, 22, 24, 28] G A G' A' ∧ Pf nd A A' ∧ ((-2147483648 : Int) ≤ r ∧ r ≤ 2147483647) ∧ G' 10 = at2 ∧ G' 16 = fk2 ∧ G' 15 = op2 ∧ G' 31 = nd2 ∧ G' 11 = tk2 ∧ (at0 ≤ at2) ∧ (at2 ≤ le) ∧ (nd ≤ nd2) ∧ (op2 = op0) ∧ (0 ≤ r) ∧ (r ≤ nd2) ∧ (((fk = 0) ∧ (1 ≤ fk2) ∧ (nd2 - nd ≤ (2 * at2 - tz tk2) - (2 * at0 - tz tk0) + 1)) ∨ ((fk = 0) ∧ (fk2 = 0) ∧ (nd2 - nd ≤ (2 * at2 - tz tk2) - (2 * at0 - tz tk0)) ∧ (wE A' Vs sb (2 * k + 2) (r) (nd) (nd2))))) := by
  obtain ⟨d, rfl⟩ : ∃ d, dd = d + 1 := ⟨dd - 1, by omega⟩
  refine wk_of (e := jm284) rfl (Nat.le_of_ble_eq_true rfl) ?_
  show wj X d jm284 (0, [(0, .ref 66)], [], rV c0 c1 G A T) _
  have hF0 : Fr [10, 11, 12, 13, 14, 15, 16, 17, 18, 31] [15, 16, 17, 18, 19, 20, 21, 22, 24, 28] G A G A := Fr_rf
  have hP0 : Pf nd A A := Pf_rf
  have b_ln : (0 : Int) ≤ ln ∧ ln ≤ 3000 := e_ln ▸ hW.1 9
  have b_le : (0 : Int) ≤ le ∧ le ≤ 3000 := e_le ▸ hW.2 4 _
  have b_at0 : (0 : Int) ≤ at0 ∧ at0 ≤ 3002 := e_at0 ▸ hW.1 10
  have b_fk : (0 : Int) ≤ fk ∧ fk ≤ 6 := e_fk ▸ hW.1 16
  have b_op0 : (-2147483648 : Int) ≤ op0 ∧ op0 ≤ 2147483647 := e_op0 ▸ hW.1 15
  have b_nd : (0 : Int) ≤ nd ∧ nd ≤ 6999 := e_nd ▸ hW.1 31
  have z_tk0 := tz_f tk0
  have b_tk0 : (0 : Int) ≤ tk0 ∧ tk0 ≤ 5 := e_tk0 ▸ hW.1 11
  refine jx_ld (pc' := 1) (l' := [(0, .ref 66)]) (st' := [.ref 66]) rfl (jl_aloadn rfl) ?_
  refine jx_vr (pc' := 4) (as := []) (st := []) rfl rfl rfl rfl ⟨rfl, rfl, Nat.le_of_ble_eq_true rfl⟩ rfl rfl (c_open (dd := d) (hd := by omega) (hW := hW)  (fk := fk) (e_fk := show G 16 = fk from (e_fk)) (op0 := op0) (e_op0 := show G 15 = op0 from (e_op0))    (p_0 := by omega)) (fun o V' hq => ?_)
  obtain ⟨G1, A2, fk2_3, op2_4, rfl, rfl, hW5, hF6, e7, e8, p9, q10⟩ := hq
  have hF11 := Fr_tr hF0 hF6 (Fr_sub (by decide)) (Fr_sub (by decide))
  have hP12 := Pf_f hP0 hF6 (by decide)
  have bfk2_3 : (0 : Int) ≤ fk2_3 ∧ fk2_3 ≤ 6 := e7 ▸ hW5.1 16
  have bop2_4 : (-2147483648 : Int) ≤ op2_4 ∧ op2_4 ≤ 2147483647 := e8 ▸ hW5.1 15
  refine .inl ⟨rfl, ?_⟩
  rcases q10 with a13 | ⟨a14, a15, a16⟩
  · have _q : True := trivial
    refine jx_ld (pc' := 5) (l' := [(0, .ref 66)]) (st' := [.ref 66]) rfl (jl_aloadn rfl) ?_
    refine jx_ar (pc' := 6) (st' := [.int (i32 (1)), .ref 66]) rfl rfl rfl rfl ?_
    refine jx_vr (pc' := 9) (as := [.int (i32 (1))]) (st := []) rfl rfl rfl rfl ⟨rfl, rfl, Nat.le_of_ble_eq_true rfl⟩ rfl rfl (c_need (dd := d) (hd := by omega) (hW := hW5) (g := 1) (ln := ln) (e_ln := show G1 9 = ln from ((hF6.1 9 rfl).trans (e_ln))) (le := le) (e_le := show A2 4 (ln).toNat = le from (congrFun (hF6.2 4 rfl) _).trans (e_le)) (at0 := at0) (e_at0 := show G1 10 = at0 from ((hF6.1 10 rfl).trans (e_at0))) (fk := fk2_3) (e_fk := show G1 16 = fk2_3 from (e7)) (tk0 := tk0) (e_tk0 := show G1 11 = tk0 from ((hF6.1 11 rfl).trans (e_tk0)))  (h_g := ⟨(by decide), (by decide)⟩)  (p_0 := by omega)) (fun o V' hq => ?_)
    obtain ⟨G17, A18, at2_19, tk2_20, fk2_21, rfl, rfl, hW22, hF23, e24, e25, e26, p27, p28, q29⟩ := hq
    have hF30 := Fr_tr hF11 hF23 (Fr_sub (by decide)) (Fr_sub (by decide))
    have hP31 := Pf_f hP12 hF23 (by decide)
    have bat2_19 : (0 : Int) ≤ at2_19 ∧ at2_19 ≤ 3002 := e24 ▸ hW22.1 10
    have ztk2_20 := tz_b tk2_20
    have btk2_20 : (0 : Int) ≤ tk2_20 ∧ tk2_20 ≤ 5 := e25 ▸ hW22.1 11
    have bfk2_21 : (0 : Int) ≤ fk2_21 ∧ fk2_21 ≤ 6 := e26 ▸ hW22.1 16
    refine .inl ⟨rfl, ?_⟩
    rcases q29 with ⟨a32, a33, a34, a35⟩ | ⟨a36, a37, a38, a39⟩
    · have _q : True := trivial
      refine jx_ld (pc' := 10) (l' := [(0, .ref 66)]) (st' := [.ref 66]) rfl (jl_aloadn rfl) ?_
      refine jx_vr (pc' := 13) (as := []) (st := []) rfl rfl rfl rfl ⟨rfl, rfl, Nat.le_of_ble_eq_true rfl⟩ rfl rfl (hE (dd := d) (hd := by omega) (hW := hW22)  (ln := ln) (e_ln := show G17 9 = ln from ((hF23.1 9 rfl).trans ((hF6.1 9 rfl).trans (e_ln)))) (le := le) (e_le := show A18 4 (ln).toNat = le from (congrFun ((hF23.2 4 rfl).trans (hF6.2 4 rfl)) _).trans (e_le)) (at0 := at2_19) (e_at0 := show G17 10 = at2_19 from (e24)) (fk := fk2_21) (e_fk := show G17 16 = fk2_21 from (e26)) (op0 := op2_4) (e_op0 := show G17 15 = op2_4 from ((hF23.1 15 rfl).trans (e8))) (nd := nd) (e_nd := show G17 31 = nd from ((hF23.1 31 rfl).trans ((hF6.1 31 rfl).trans (e_nd)))) (tk0 := tk2_20) (e_tk0 := show G17 11 = tk2_20 from (e25)) (i_SV := (SV_ext (((hF23.1 29 rfl).trans (hF6.1 29 rfl))) (((hF23.2 14 rfl).trans (hF6.2 14 rfl))) i_SV))   (p_0 := by omega) (p_1 := by omega) (p_2 := by omega) (p_3 := by omega) (p_4 := by omega) (p_5 := by omega)) (fun o V' hq => ?_)
      obtain ⟨G40, A41, r42, at2_43, fk2_44, op2_45, nd2_46, tk2_47, rfl, rfl, hW48, hF49, hQ50, b51, e52, e53, e54, e55, e56, p57, p58, p59, p60, p61, p62, q63⟩ := hq
      have hF64 := Fr_tr hF30 hF49 (Fr_sub (by decide)) (Fr_sub (by decide))
      have hP65 := Pf_tr hP31 hQ50 (by omega)
      have bat2_43 : (0 : Int) ≤ at2_43 ∧ at2_43 ≤ 3002 := e52 ▸ hW48.1 10
      have bfk2_44 : (0 : Int) ≤ fk2_44 ∧ fk2_44 ≤ 6 := e53 ▸ hW48.1 16
      have bop2_45 : (-2147483648 : Int) ≤ op2_45 ∧ op2_45 ≤ 2147483647 := e54 ▸ hW48.1 15
      have bnd2_46 : (0 : Int) ≤ nd2_46 ∧ nd2_46 ≤ 6999 := e55 ▸ hW48.1 31
      have ztk2_47 := tz_b tk2_47
      have btk2_47 : (0 : Int) ≤ tk2_47 ∧ tk2_47 ≤ 5 := e56 ▸ hW48.1 11
      refine .inr ⟨_, rfl, ?_⟩
      rcases q63 with ⟨a66, a67, a68, a69, a70, a71⟩ | ⟨a72, a73, a74⟩ | ⟨a75, a76, a77, a78⟩
      · have _q : True := trivial
        refine jx_ld (pc' := 14) (l' := jSto1 [(0, .ref 66)] 1 (.int (i32 (r42)))) (st' := []) rfl rfl ?_
        obtain ⟨L79, eL79⟩ : ∃ q, q = jSto1 [(0, .ref 66)] 1 (.int (i32 (r42))) := ⟨_, rfl⟩
        rw [← eL79]
        have gL79_0 : jGet L79 0 = some (.ref 66) := eL79 ▸ jg_ne (by decide) (rfl : jGet [(0, .ref 66)] 0 = some (.ref 66)) rfl
        have gL79_1 : jGet L79 1 = some (.int (i32 (r42))) := eL79 ▸ jg_eq
        refine jx_ld (pc' := 15) (l' := L79) (st' := [.ref 66]) rfl (jl_aloadn gL79_0) ?_
        refine jx_ld (pc' := 16) (l' := L79) (st' := [.ref 66, .ref 66]) rfl (jl_aloadn gL79_0) ?_
        refine jx_ar (pc' := 18) (st' := [.int (i32 (93)), .ref 66, .ref 66]) rfl rfl rfl rfl ?_
        have b80 : (-2147483648 : Int) ≤ G40 13 ∧ G40 13 ≤ 2147483647 := hW48.1 13
        refine jx_vr (pc' := 21) (as := [.int (i32 (93))]) (st := [.ref 66]) rfl rfl rfl rfl ⟨rfl, rfl, Nat.le_of_ble_eq_true rfl⟩ rfl rfl (c_is (dd := d) (hd := by omega) (hW := hW48) (k := 93) (tk := tk2_47) (e_tk := show G40 11 = tk2_47 from (e56)) (tn := G40 13) (e_tn := show G40 13 = G40 13 from rfl)  (h_k := ⟨(by decide), (by decide)⟩)  ) (fun o V' hq => ?_)
        obtain ⟨r81, rfl, rfl, b82, q83⟩ := hq
        refine .inr ⟨_, rfl, ?_⟩
        rcases q83 with ⟨rfl, a84, a85, a86⟩ | rfl
        · have _q : True := trivial
          refine jx_vr (pc' := 24) (as := [.int (i32 (1))]) (st := []) rfl rfl rfl rfl ⟨rfl, rfl, Nat.le_of_ble_eq_true rfl⟩ rfl rfl (c_need (dd := d) (hd := by omega) (hW := hW48) (g := 1) (ln := ln) (e_ln := show G40 9 = ln from ((hF49.1 9 rfl).trans ((hF23.1 9 rfl).trans ((hF6.1 9 rfl).trans (e_ln))))) (le := le) (e_le := show A41 4 (ln).toNat = le from (congrFun ((hF49.2 4 rfl).trans ((hF23.2 4 rfl).trans (hF6.2 4 rfl))) _).trans (e_le)) (at0 := at2_43) (e_at0 := show G40 10 = at2_43 from (e52)) (fk := fk2_44) (e_fk := show G40 16 = fk2_44 from (e53)) (tk0 := tk2_47) (e_tk0 := show G40 11 = tk2_47 from (e56))  (h_g := ⟨(by decide), (by decide)⟩)  (p_0 := by omega)) (fun o V' hq => ?_)
          obtain ⟨G87, A88, at2_89, tk2_90, fk2_91, rfl, rfl, hW92, hF93, e94, e95, e96, p97, p98, q99⟩ := hq
          have hF100 := Fr_tr hF64 hF93 (Fr_sub (by decide)) (Fr_sub (by decide))
          have hP101 := Pf_f hP65 hF93 (by decide)
          have bat2_89 : (0 : Int) ≤ at2_89 ∧ at2_89 ≤ 3002 := e94 ▸ hW92.1 10
          have ztk2_90 := tz_b tk2_90
          have btk2_90 : (0 : Int) ≤ tk2_90 ∧ tk2_90 ≤ 5 := e95 ▸ hW92.1 11
          have bfk2_91 : (0 : Int) ≤ fk2_91 ∧ fk2_91 ≤ 6 := e96 ▸ hW92.1 16
          refine .inl ⟨rfl, ?_⟩
          rcases q99 with ⟨a102, a103, a104, a105⟩ | ⟨a106, a107, a108, a109⟩
          · have _q : True := trivial
            refine jx_ld (pc' := 25) (l' := L79) (st' := [.ref 66]) rfl (jl_aloadn gL79_0) ?_
            refine jx_ar (pc' := 26) (st' := [.ref 66, .ref 66]) rfl rfl rfl rfl ?_
            refine jr_get (pc' := 29) (i := 15) (v := .int (i32 (op2_45))) rfl rfl (by decide) (rFv_eq (by decide) (show G87 15 = op2_45 from ((hF93.1 15 rfl).trans (e54)))) rfl ?_
            refine jx_ar (pc' := 30) (st' := [.int (i32 (1)), .int (i32 (op2_45)), .ref 66]) rfl rfl rfl rfl ?_
            refine jx_sub (pc' := 31) rfl rfl ?_
            refine jr_put (pc' := 34) (i := 15) (z := (op2_45 - 1)) rfl rfl (by decide) rfl rfl rfl rfl rfl rfl ?_
            have hW110 : Wk (uG G87 15 ((op2_45 - 1))) A88 := Wk_g hW92 (show (-2147483648 : Int) ≤ (op2_45 - 1) by omega) (show (op2_45 - 1) ≤ (2147483647 : Int) by omega)
            have hF111 := Fr_g (z := (op2_45 - 1)) (i := 15) hF100 (by decide)
            refine jx_ld (pc' := 35) (l' := L79) (st' := [.int (i32 (r42))]) rfl (jl_iloadn gL79_1) ?_
            refine jx_rt (v := some (.int (i32 (r42)))) rfl rfl rfl rfl rfl rfl ?_
            have z112 := tz_f (tk2_90)
            exact ⟨_, _, _, at2_89, fk2_91, (op2_45 - 1), nd2_46, tk2_90, rfl, rfl, hW110, hF111, hP101, by omega, (e94), (e96), rfl, ((hF93.1 31 rfl).trans (e55)), (e95), by omega, by omega, by omega, by omega, by omega, by omega, by first | exact Or.inl (⟨by omega, by omega, by omega⟩)⟩
          · have _q : True := trivial
            exfalso
            omega
        · have _q : True := trivial
          refine jx_vr (pc' := 24) (as := [.int (i32 (0))]) (st := []) rfl rfl rfl rfl ⟨rfl, rfl, Nat.le_of_ble_eq_true rfl⟩ rfl rfl (c_need (dd := d) (hd := by omega) (hW := hW48) (g := 0) (ln := ln) (e_ln := show G40 9 = ln from ((hF49.1 9 rfl).trans ((hF23.1 9 rfl).trans ((hF6.1 9 rfl).trans (e_ln))))) (le := le) (e_le := show A41 4 (ln).toNat = le from (congrFun ((hF49.2 4 rfl).trans ((hF23.2 4 rfl).trans (hF6.2 4 rfl))) _).trans (e_le)) (at0 := at2_43) (e_at0 := show G40 10 = at2_43 from (e52)) (fk := fk2_44) (e_fk := show G40 16 = fk2_44 from (e53)) (tk0 := tk2_47) (e_tk0 := show G40 11 = tk2_47 from (e56))  (h_g := ⟨(by decide), (by decide)⟩)  (p_0 := by omega)) (fun o V' hq => ?_)
          obtain ⟨G113, A114, at2_115, tk2_116, fk2_117, rfl, rfl, hW118, hF119, e120, e121, e122, p123, p124, q125⟩ := hq
          have hF126 := Fr_tr hF64 hF119 (Fr_sub (by decide)) (Fr_sub (by decide))
          have hP127 := Pf_f hP65 hF119 (by decide)
          have bat2_115 : (0 : Int) ≤ at2_115 ∧ at2_115 ≤ 3002 := e120 ▸ hW118.1 10
          have ztk2_116 := tz_b tk2_116
          have btk2_116 : (0 : Int) ≤ tk2_116 ∧ tk2_116 ≤ 5 := e121 ▸ hW118.1 11
          have bfk2_117 : (0 : Int) ≤ fk2_117 ∧ fk2_117 ≤ 6 := e122 ▸ hW118.1 16
          refine .inl ⟨rfl, ?_⟩
          rcases q125 with ⟨a128, a129, a130, a131⟩ | ⟨a132, a133, a134, a135⟩
          · have _q : True := trivial
            refine jx_ld (pc' := 25) (l' := L79) (st' := [.ref 66]) rfl (jl_aloadn gL79_0) ?_
            refine jx_ar (pc' := 26) (st' := [.ref 66, .ref 66]) rfl rfl rfl rfl ?_
            refine jr_get (pc' := 29) (i := 15) (v := .int (i32 (op2_45))) rfl rfl (by decide) (rFv_eq (by decide) (show G113 15 = op2_45 from ((hF119.1 15 rfl).trans (e54)))) rfl ?_
            refine jx_ar (pc' := 30) (st' := [.int (i32 (1)), .int (i32 (op2_45)), .ref 66]) rfl rfl rfl rfl ?_
            refine jx_sub (pc' := 31) rfl rfl ?_
            refine jr_put (pc' := 34) (i := 15) (z := (op2_45 - 1)) rfl rfl (by decide) rfl rfl rfl rfl rfl rfl ?_
            have hW136 : Wk (uG G113 15 ((op2_45 - 1))) A114 := Wk_g hW118 (show (-2147483648 : Int) ≤ (op2_45 - 1) by omega) (show (op2_45 - 1) ≤ (2147483647 : Int) by omega)
            have hF137 := Fr_g (z := (op2_45 - 1)) (i := 15) hF126 (by decide)
            refine jx_ld (pc' := 35) (l' := L79) (st' := [.int (i32 (r42))]) rfl (jl_iloadn gL79_1) ?_
            refine jx_rt (v := some (.int (i32 (r42)))) rfl rfl rfl rfl rfl rfl ?_
            have z138 := tz_f (tk2_116)
            exact ⟨_, _, _, at2_115, fk2_117, (op2_45 - 1), nd2_46, tk2_116, rfl, rfl, hW136, hF137, hP127, by omega, (e120), (e122), rfl, ((hF119.1 31 rfl).trans (e55)), (e121), by omega, by omega, by omega, by omega, by omega, by omega, by first | exact Or.inl (⟨by omega, by omega, by omega⟩)⟩
          · have _q : True := trivial
            exfalso
            omega
      · have _q : True := trivial
        exfalso
        omega
      · have _q : True := trivial
        exfalso
        omega
    · have _q : True := trivial
      exfalso
      omega
  · have _q : True := trivial
    refine jx_ld (pc' := 5) (l' := [(0, .ref 66)]) (st' := [.ref 66]) rfl (jl_aloadn rfl) ?_
    refine jx_ar (pc' := 6) (st' := [.int (i32 (1)), .ref 66]) rfl rfl rfl rfl ?_
    refine jx_vr (pc' := 9) (as := [.int (i32 (1))]) (st := []) rfl rfl rfl rfl ⟨rfl, rfl, Nat.le_of_ble_eq_true rfl⟩ rfl rfl (c_need (dd := d) (hd := by omega) (hW := hW5) (g := 1) (ln := ln) (e_ln := show G1 9 = ln from ((hF6.1 9 rfl).trans (e_ln))) (le := le) (e_le := show A2 4 (ln).toNat = le from (congrFun (hF6.2 4 rfl) _).trans (e_le)) (at0 := at0) (e_at0 := show G1 10 = at0 from ((hF6.1 10 rfl).trans (e_at0))) (fk := fk2_3) (e_fk := show G1 16 = fk2_3 from (e7)) (tk0 := tk0) (e_tk0 := show G1 11 = tk0 from ((hF6.1 11 rfl).trans (e_tk0)))  (h_g := ⟨(by decide), (by decide)⟩)  (p_0 := by omega)) (fun o V' hq => ?_)
    obtain ⟨G139, A140, at2_141, tk2_142, fk2_143, rfl, rfl, hW144, hF145, e146, e147, e148, p149, p150, q151⟩ := hq
    have hF152 := Fr_tr hF11 hF145 (Fr_sub (by decide)) (Fr_sub (by decide))
    have hP153 := Pf_f hP12 hF145 (by decide)
    have bat2_141 : (0 : Int) ≤ at2_141 ∧ at2_141 ≤ 3002 := e146 ▸ hW144.1 10
    have ztk2_142 := tz_b tk2_142
    have btk2_142 : (0 : Int) ≤ tk2_142 ∧ tk2_142 ≤ 5 := e147 ▸ hW144.1 11
    have bfk2_143 : (0 : Int) ≤ fk2_143 ∧ fk2_143 ≤ 6 := e148 ▸ hW144.1 16
    refine .inl ⟨rfl, ?_⟩
    rcases q151 with ⟨a154, a155, a156, a157⟩ | ⟨a158, a159, a160, a161⟩
    · have _q : True := trivial
      refine jx_ld (pc' := 10) (l' := [(0, .ref 66)]) (st' := [.ref 66]) rfl (jl_aloadn rfl) ?_
      refine jx_vr (pc' := 13) (as := []) (st := []) rfl rfl rfl rfl ⟨rfl, rfl, Nat.le_of_ble_eq_true rfl⟩ rfl rfl (hE (dd := d) (hd := by omega) (hW := hW144)  (ln := ln) (e_ln := show G139 9 = ln from ((hF145.1 9 rfl).trans ((hF6.1 9 rfl).trans (e_ln)))) (le := le) (e_le := show A140 4 (ln).toNat = le from (congrFun ((hF145.2 4 rfl).trans (hF6.2 4 rfl)) _).trans (e_le)) (at0 := at2_141) (e_at0 := show G139 10 = at2_141 from (e146)) (fk := fk2_143) (e_fk := show G139 16 = fk2_143 from (e148)) (op0 := op2_4) (e_op0 := show G139 15 = op2_4 from ((hF145.1 15 rfl).trans (e8))) (nd := nd) (e_nd := show G139 31 = nd from ((hF145.1 31 rfl).trans ((hF6.1 31 rfl).trans (e_nd)))) (tk0 := tk2_142) (e_tk0 := show G139 11 = tk2_142 from (e147)) (i_SV := (SV_ext (((hF145.1 29 rfl).trans (hF6.1 29 rfl))) (((hF145.2 14 rfl).trans (hF6.2 14 rfl))) i_SV))   (p_0 := by omega) (p_1 := by omega) (p_2 := by omega) (p_3 := by omega) (p_4 := by omega) (p_5 := by omega)) (fun o V' hq => ?_)
      obtain ⟨G162, A163, r164, at2_165, fk2_166, op2_167, nd2_168, tk2_169, rfl, rfl, hW170, hF171, hQ172, b173, e174, e175, e176, e177, e178, p179, p180, p181, p182, p183, p184, q185⟩ := hq
      have hF186 := Fr_tr hF152 hF171 (Fr_sub (by decide)) (Fr_sub (by decide))
      have hP187 := Pf_tr hP153 hQ172 (by omega)
      have bat2_165 : (0 : Int) ≤ at2_165 ∧ at2_165 ≤ 3002 := e174 ▸ hW170.1 10
      have bfk2_166 : (0 : Int) ≤ fk2_166 ∧ fk2_166 ≤ 6 := e175 ▸ hW170.1 16
      have bop2_167 : (-2147483648 : Int) ≤ op2_167 ∧ op2_167 ≤ 2147483647 := e176 ▸ hW170.1 15
      have bnd2_168 : (0 : Int) ≤ nd2_168 ∧ nd2_168 ≤ 6999 := e177 ▸ hW170.1 31
      have ztk2_169 := tz_b tk2_169
      have btk2_169 : (0 : Int) ≤ tk2_169 ∧ tk2_169 ≤ 5 := e178 ▸ hW170.1 11
      refine .inr ⟨_, rfl, ?_⟩
      rcases q185 with ⟨a188, a189, a190, a191, a192, a193⟩ | ⟨a194, a195, a196⟩ | ⟨a197, a198, a199, a200⟩
      · have _q : True := trivial
        refine jx_ld (pc' := 14) (l' := jSto1 [(0, .ref 66)] 1 (.int (i32 (r164)))) (st' := []) rfl rfl ?_
        obtain ⟨L201, eL201⟩ : ∃ q, q = jSto1 [(0, .ref 66)] 1 (.int (i32 (r164))) := ⟨_, rfl⟩
        rw [← eL201]
        have gL201_0 : jGet L201 0 = some (.ref 66) := eL201 ▸ jg_ne (by decide) (rfl : jGet [(0, .ref 66)] 0 = some (.ref 66)) rfl
        have gL201_1 : jGet L201 1 = some (.int (i32 (r164))) := eL201 ▸ jg_eq
        refine jx_ld (pc' := 15) (l' := L201) (st' := [.ref 66]) rfl (jl_aloadn gL201_0) ?_
        refine jx_ld (pc' := 16) (l' := L201) (st' := [.ref 66, .ref 66]) rfl (jl_aloadn gL201_0) ?_
        refine jx_ar (pc' := 18) (st' := [.int (i32 (93)), .ref 66, .ref 66]) rfl rfl rfl rfl ?_
        have b202 : (-2147483648 : Int) ≤ G162 13 ∧ G162 13 ≤ 2147483647 := hW170.1 13
        refine jx_vr (pc' := 21) (as := [.int (i32 (93))]) (st := [.ref 66]) rfl rfl rfl rfl ⟨rfl, rfl, Nat.le_of_ble_eq_true rfl⟩ rfl rfl (c_is (dd := d) (hd := by omega) (hW := hW170) (k := 93) (tk := tk2_169) (e_tk := show G162 11 = tk2_169 from (e178)) (tn := G162 13) (e_tn := show G162 13 = G162 13 from rfl)  (h_k := ⟨(by decide), (by decide)⟩)  ) (fun o V' hq => ?_)
        obtain ⟨r203, rfl, rfl, b204, q205⟩ := hq
        refine .inr ⟨_, rfl, ?_⟩
        rcases q205 with ⟨rfl, a206, a207, a208⟩ | rfl
        · have _q : True := trivial
          refine jx_vr (pc' := 24) (as := [.int (i32 (1))]) (st := []) rfl rfl rfl rfl ⟨rfl, rfl, Nat.le_of_ble_eq_true rfl⟩ rfl rfl (c_need (dd := d) (hd := by omega) (hW := hW170) (g := 1) (ln := ln) (e_ln := show G162 9 = ln from ((hF171.1 9 rfl).trans ((hF145.1 9 rfl).trans ((hF6.1 9 rfl).trans (e_ln))))) (le := le) (e_le := show A163 4 (ln).toNat = le from (congrFun ((hF171.2 4 rfl).trans ((hF145.2 4 rfl).trans (hF6.2 4 rfl))) _).trans (e_le)) (at0 := at2_165) (e_at0 := show G162 10 = at2_165 from (e174)) (fk := fk2_166) (e_fk := show G162 16 = fk2_166 from (e175)) (tk0 := tk2_169) (e_tk0 := show G162 11 = tk2_169 from (e178))  (h_g := ⟨(by decide), (by decide)⟩)  (p_0 := by omega)) (fun o V' hq => ?_)
          obtain ⟨G209, A210, at2_211, tk2_212, fk2_213, rfl, rfl, hW214, hF215, e216, e217, e218, p219, p220, q221⟩ := hq
          have hF222 := Fr_tr hF186 hF215 (Fr_sub (by decide)) (Fr_sub (by decide))
          have hP223 := Pf_f hP187 hF215 (by decide)
          have bat2_211 : (0 : Int) ≤ at2_211 ∧ at2_211 ≤ 3002 := e216 ▸ hW214.1 10
          have ztk2_212 := tz_b tk2_212
          have btk2_212 : (0 : Int) ≤ tk2_212 ∧ tk2_212 ≤ 5 := e217 ▸ hW214.1 11
          have bfk2_213 : (0 : Int) ≤ fk2_213 ∧ fk2_213 ≤ 6 := e218 ▸ hW214.1 16
          refine .inl ⟨rfl, ?_⟩
          rcases q221 with ⟨a224, a225, a226, a227⟩ | ⟨a228, a229, a230, a231⟩
          · have _q : True := trivial
            refine jx_ld (pc' := 25) (l' := L201) (st' := [.ref 66]) rfl (jl_aloadn gL201_0) ?_
            refine jx_ar (pc' := 26) (st' := [.ref 66, .ref 66]) rfl rfl rfl rfl ?_
            refine jr_get (pc' := 29) (i := 15) (v := .int (i32 (op2_167))) rfl rfl (by decide) (rFv_eq (by decide) (show G209 15 = op2_167 from ((hF215.1 15 rfl).trans (e176)))) rfl ?_
            refine jx_ar (pc' := 30) (st' := [.int (i32 (1)), .int (i32 (op2_167)), .ref 66]) rfl rfl rfl rfl ?_
            refine jx_sub (pc' := 31) rfl rfl ?_
            refine jr_put (pc' := 34) (i := 15) (z := (op2_167 - 1)) rfl rfl (by decide) rfl rfl rfl rfl rfl rfl ?_
            have hW232 : Wk (uG G209 15 ((op2_167 - 1))) A210 := Wk_g hW214 (show (-2147483648 : Int) ≤ (op2_167 - 1) by omega) (show (op2_167 - 1) ≤ (2147483647 : Int) by omega)
            have hF233 := Fr_g (z := (op2_167 - 1)) (i := 15) hF222 (by decide)
            refine jx_ld (pc' := 35) (l' := L201) (st' := [.int (i32 (r164))]) rfl (jl_iloadn gL201_1) ?_
            refine jx_rt (v := some (.int (i32 (r164)))) rfl rfl rfl rfl rfl rfl ?_
            have z234 := tz_f (tk2_212)
            exact ⟨_, _, _, at2_211, fk2_213, (op2_167 - 1), nd2_168, tk2_212, rfl, rfl, hW232, hF233, hP223, by omega, (e216), (e218), rfl, ((hF215.1 31 rfl).trans (e177)), (e217), by omega, by omega, by omega, by omega, by omega, by omega, by first | exact Or.inl (⟨by omega, by omega, by omega⟩)⟩
          · have _q : True := trivial
            exfalso
            omega
        · have _q : True := trivial
          refine jx_vr (pc' := 24) (as := [.int (i32 (0))]) (st := []) rfl rfl rfl rfl ⟨rfl, rfl, Nat.le_of_ble_eq_true rfl⟩ rfl rfl (c_need (dd := d) (hd := by omega) (hW := hW170) (g := 0) (ln := ln) (e_ln := show G162 9 = ln from ((hF171.1 9 rfl).trans ((hF145.1 9 rfl).trans ((hF6.1 9 rfl).trans (e_ln))))) (le := le) (e_le := show A163 4 (ln).toNat = le from (congrFun ((hF171.2 4 rfl).trans ((hF145.2 4 rfl).trans (hF6.2 4 rfl))) _).trans (e_le)) (at0 := at2_165) (e_at0 := show G162 10 = at2_165 from (e174)) (fk := fk2_166) (e_fk := show G162 16 = fk2_166 from (e175)) (tk0 := tk2_169) (e_tk0 := show G162 11 = tk2_169 from (e178))  (h_g := ⟨(by decide), (by decide)⟩)  (p_0 := by omega)) (fun o V' hq => ?_)
          obtain ⟨G235, A236, at2_237, tk2_238, fk2_239, rfl, rfl, hW240, hF241, e242, e243, e244, p245, p246, q247⟩ := hq
          have hF248 := Fr_tr hF186 hF241 (Fr_sub (by decide)) (Fr_sub (by decide))
          have hP249 := Pf_f hP187 hF241 (by decide)
          have bat2_237 : (0 : Int) ≤ at2_237 ∧ at2_237 ≤ 3002 := e242 ▸ hW240.1 10
          have ztk2_238 := tz_b tk2_238
          have btk2_238 : (0 : Int) ≤ tk2_238 ∧ tk2_238 ≤ 5 := e243 ▸ hW240.1 11
          have bfk2_239 : (0 : Int) ≤ fk2_239 ∧ fk2_239 ≤ 6 := e244 ▸ hW240.1 16
          refine .inl ⟨rfl, ?_⟩
          rcases q247 with ⟨a250, a251, a252, a253⟩ | ⟨a254, a255, a256, a257⟩
          · have _q : True := trivial
            refine jx_ld (pc' := 25) (l' := L201) (st' := [.ref 66]) rfl (jl_aloadn gL201_0) ?_
            refine jx_ar (pc' := 26) (st' := [.ref 66, .ref 66]) rfl rfl rfl rfl ?_
            refine jr_get (pc' := 29) (i := 15) (v := .int (i32 (op2_167))) rfl rfl (by decide) (rFv_eq (by decide) (show G235 15 = op2_167 from ((hF241.1 15 rfl).trans (e176)))) rfl ?_
            refine jx_ar (pc' := 30) (st' := [.int (i32 (1)), .int (i32 (op2_167)), .ref 66]) rfl rfl rfl rfl ?_
            refine jx_sub (pc' := 31) rfl rfl ?_
            refine jr_put (pc' := 34) (i := 15) (z := (op2_167 - 1)) rfl rfl (by decide) rfl rfl rfl rfl rfl rfl ?_
            have hW258 : Wk (uG G235 15 ((op2_167 - 1))) A236 := Wk_g hW240 (show (-2147483648 : Int) ≤ (op2_167 - 1) by omega) (show (op2_167 - 1) ≤ (2147483647 : Int) by omega)
            have hF259 := Fr_g (z := (op2_167 - 1)) (i := 15) hF248 (by decide)
            refine jx_ld (pc' := 35) (l' := L201) (st' := [.int (i32 (r164))]) rfl (jl_iloadn gL201_1) ?_
            refine jx_rt (v := some (.int (i32 (r164)))) rfl rfl rfl rfl rfl rfl ?_
            have z260 := tz_f (tk2_238)
            exact ⟨_, _, _, at2_237, fk2_239, (op2_167 - 1), nd2_168, tk2_238, rfl, rfl, hW258, hF259, hP249, by omega, (e242), (e244), rfl, ((hF241.1 31 rfl).trans (e177)), (e243), by omega, by omega, by omega, by omega, by omega, by omega, by first | exact Or.inl (⟨by omega, by omega, by omega⟩)⟩
          · have _q : True := trivial
            exfalso
            omega
      · have _q : True := trivial
        exfalso
        omega
      · have _q : True := trivial
        exfalso
        omega
    · have _q : True := trivial
      refine jx_ld (pc' := 10) (l' := [(0, .ref 66)]) (st' := [.ref 66]) rfl (jl_aloadn rfl) ?_
      refine jx_vr (pc' := 13) (as := []) (st := []) rfl rfl rfl rfl ⟨rfl, rfl, Nat.le_of_ble_eq_true rfl⟩ rfl rfl (hE (dd := d) (hd := by omega) (hW := hW144)  (ln := ln) (e_ln := show G139 9 = ln from ((hF145.1 9 rfl).trans ((hF6.1 9 rfl).trans (e_ln)))) (le := le) (e_le := show A140 4 (ln).toNat = le from (congrFun ((hF145.2 4 rfl).trans (hF6.2 4 rfl)) _).trans (e_le)) (at0 := at2_141) (e_at0 := show G139 10 = at2_141 from (e146)) (fk := fk2_143) (e_fk := show G139 16 = fk2_143 from (e148)) (op0 := op2_4) (e_op0 := show G139 15 = op2_4 from ((hF145.1 15 rfl).trans (e8))) (nd := nd) (e_nd := show G139 31 = nd from ((hF145.1 31 rfl).trans ((hF6.1 31 rfl).trans (e_nd)))) (tk0 := tk2_142) (e_tk0 := show G139 11 = tk2_142 from (e147)) (i_SV := (SV_ext (((hF145.1 29 rfl).trans (hF6.1 29 rfl))) (((hF145.2 14 rfl).trans (hF6.2 14 rfl))) i_SV))   (p_0 := by omega) (p_1 := by omega) (p_2 := by omega) (p_3 := by omega) (p_4 := by omega) (p_5 := by omega)) (fun o V' hq => ?_)
      obtain ⟨G261, A262, r263, at2_264, fk2_265, op2_266, nd2_267, tk2_268, rfl, rfl, hW269, hF270, hQ271, b272, e273, e274, e275, e276, e277, p278, p279, p280, p281, p282, p283, q284⟩ := hq
      have hF285 := Fr_tr hF152 hF270 (Fr_sub (by decide)) (Fr_sub (by decide))
      have hP286 := Pf_tr hP153 hQ271 (by omega)
      have bat2_264 : (0 : Int) ≤ at2_264 ∧ at2_264 ≤ 3002 := e273 ▸ hW269.1 10
      have bfk2_265 : (0 : Int) ≤ fk2_265 ∧ fk2_265 ≤ 6 := e274 ▸ hW269.1 16
      have bop2_266 : (-2147483648 : Int) ≤ op2_266 ∧ op2_266 ≤ 2147483647 := e275 ▸ hW269.1 15
      have bnd2_267 : (0 : Int) ≤ nd2_267 ∧ nd2_267 ≤ 6999 := e276 ▸ hW269.1 31
      have ztk2_268 := tz_b tk2_268
      have btk2_268 : (0 : Int) ≤ tk2_268 ∧ tk2_268 ≤ 5 := e277 ▸ hW269.1 11
      refine .inr ⟨_, rfl, ?_⟩
      rcases q284 with ⟨a287, a288, a289, a290, a291, a292⟩ | ⟨a293, a294, a295⟩ | ⟨a296, a297, a298, a299⟩
      · have _q : True := trivial
        exfalso
        omega
      · have _q : True := trivial
        refine jx_ld (pc' := 14) (l' := jSto1 [(0, .ref 66)] 1 (.int (i32 (r263)))) (st' := []) rfl rfl ?_
        obtain ⟨L300, eL300⟩ : ∃ q, q = jSto1 [(0, .ref 66)] 1 (.int (i32 (r263))) := ⟨_, rfl⟩
        rw [← eL300]
        have gL300_0 : jGet L300 0 = some (.ref 66) := eL300 ▸ jg_ne (by decide) (rfl : jGet [(0, .ref 66)] 0 = some (.ref 66)) rfl
        have gL300_1 : jGet L300 1 = some (.int (i32 (r263))) := eL300 ▸ jg_eq
        refine jx_ld (pc' := 15) (l' := L300) (st' := [.ref 66]) rfl (jl_aloadn gL300_0) ?_
        refine jx_ld (pc' := 16) (l' := L300) (st' := [.ref 66, .ref 66]) rfl (jl_aloadn gL300_0) ?_
        refine jx_ar (pc' := 18) (st' := [.int (i32 (93)), .ref 66, .ref 66]) rfl rfl rfl rfl ?_
        have b301 : (-2147483648 : Int) ≤ G261 13 ∧ G261 13 ≤ 2147483647 := hW269.1 13
        refine jx_vr (pc' := 21) (as := [.int (i32 (93))]) (st := [.ref 66]) rfl rfl rfl rfl ⟨rfl, rfl, Nat.le_of_ble_eq_true rfl⟩ rfl rfl (c_is (dd := d) (hd := by omega) (hW := hW269) (k := 93) (tk := tk2_268) (e_tk := show G261 11 = tk2_268 from (e277)) (tn := G261 13) (e_tn := show G261 13 = G261 13 from rfl)  (h_k := ⟨(by decide), (by decide)⟩)  ) (fun o V' hq => ?_)
        obtain ⟨r302, rfl, rfl, b303, q304⟩ := hq
        refine .inr ⟨_, rfl, ?_⟩
        rcases q304 with ⟨rfl, a305, a306, a307⟩ | rfl
        · have _q : True := trivial
          refine jx_vr (pc' := 24) (as := [.int (i32 (1))]) (st := []) rfl rfl rfl rfl ⟨rfl, rfl, Nat.le_of_ble_eq_true rfl⟩ rfl rfl (c_need (dd := d) (hd := by omega) (hW := hW269) (g := 1) (ln := ln) (e_ln := show G261 9 = ln from ((hF270.1 9 rfl).trans ((hF145.1 9 rfl).trans ((hF6.1 9 rfl).trans (e_ln))))) (le := le) (e_le := show A262 4 (ln).toNat = le from (congrFun ((hF270.2 4 rfl).trans ((hF145.2 4 rfl).trans (hF6.2 4 rfl))) _).trans (e_le)) (at0 := at2_264) (e_at0 := show G261 10 = at2_264 from (e273)) (fk := fk2_265) (e_fk := show G261 16 = fk2_265 from (e274)) (tk0 := tk2_268) (e_tk0 := show G261 11 = tk2_268 from (e277))  (h_g := ⟨(by decide), (by decide)⟩)  (p_0 := by omega)) (fun o V' hq => ?_)
          obtain ⟨G308, A309, at2_310, tk2_311, fk2_312, rfl, rfl, hW313, hF314, e315, e316, e317, p318, p319, q320⟩ := hq
          have hF321 := Fr_tr hF285 hF314 (Fr_sub (by decide)) (Fr_sub (by decide))
          have hP322 := Pf_f hP286 hF314 (by decide)
          have bat2_310 : (0 : Int) ≤ at2_310 ∧ at2_310 ≤ 3002 := e315 ▸ hW313.1 10
          have ztk2_311 := tz_b tk2_311
          have btk2_311 : (0 : Int) ≤ tk2_311 ∧ tk2_311 ≤ 5 := e316 ▸ hW313.1 11
          have bfk2_312 : (0 : Int) ≤ fk2_312 ∧ fk2_312 ≤ 6 := e317 ▸ hW313.1 16
          refine .inl ⟨rfl, ?_⟩
          rcases q320 with ⟨a323, a324, a325, a326⟩ | ⟨a327, a328, a329, a330⟩
          · have _q : True := trivial
            refine jx_ld (pc' := 25) (l' := L300) (st' := [.ref 66]) rfl (jl_aloadn gL300_0) ?_
            refine jx_ar (pc' := 26) (st' := [.ref 66, .ref 66]) rfl rfl rfl rfl ?_
            refine jr_get (pc' := 29) (i := 15) (v := .int (i32 (op2_266))) rfl rfl (by decide) (rFv_eq (by decide) (show G308 15 = op2_266 from ((hF314.1 15 rfl).trans (e275)))) rfl ?_
            refine jx_ar (pc' := 30) (st' := [.int (i32 (1)), .int (i32 (op2_266)), .ref 66]) rfl rfl rfl rfl ?_
            refine jx_sub (pc' := 31) rfl rfl ?_
            refine jr_put (pc' := 34) (i := 15) (z := (op2_266 - 1)) rfl rfl (by decide) rfl rfl rfl rfl rfl rfl ?_
            have hW331 : Wk (uG G308 15 ((op2_266 - 1))) A309 := Wk_g hW313 (show (-2147483648 : Int) ≤ (op2_266 - 1) by omega) (show (op2_266 - 1) ≤ (2147483647 : Int) by omega)
            have hF332 := Fr_g (z := (op2_266 - 1)) (i := 15) hF321 (by decide)
            refine jx_ld (pc' := 35) (l' := L300) (st' := [.int (i32 (r263))]) rfl (jl_iloadn gL300_1) ?_
            refine jx_rt (v := some (.int (i32 (r263)))) rfl rfl rfl rfl rfl rfl ?_
            have z333 := tz_f (tk2_311)
            exact ⟨_, _, _, at2_310, fk2_312, (op2_266 - 1), nd2_267, tk2_311, rfl, rfl, hW331, hF332, hP322, by omega, (e315), (e317), rfl, ((hF314.1 31 rfl).trans (e276)), (e316), by omega, by omega, by omega, by omega, by omega, by omega, by first | exact Or.inl (⟨by omega, by omega, by omega⟩)⟩
          · have _q : True := trivial
            exfalso
            omega
        · have _q : True := trivial
          refine jx_vr (pc' := 24) (as := [.int (i32 (0))]) (st := []) rfl rfl rfl rfl ⟨rfl, rfl, Nat.le_of_ble_eq_true rfl⟩ rfl rfl (c_need (dd := d) (hd := by omega) (hW := hW269) (g := 0) (ln := ln) (e_ln := show G261 9 = ln from ((hF270.1 9 rfl).trans ((hF145.1 9 rfl).trans ((hF6.1 9 rfl).trans (e_ln))))) (le := le) (e_le := show A262 4 (ln).toNat = le from (congrFun ((hF270.2 4 rfl).trans ((hF145.2 4 rfl).trans (hF6.2 4 rfl))) _).trans (e_le)) (at0 := at2_264) (e_at0 := show G261 10 = at2_264 from (e273)) (fk := fk2_265) (e_fk := show G261 16 = fk2_265 from (e274)) (tk0 := tk2_268) (e_tk0 := show G261 11 = tk2_268 from (e277))  (h_g := ⟨(by decide), (by decide)⟩)  (p_0 := by omega)) (fun o V' hq => ?_)
          obtain ⟨G334, A335, at2_336, tk2_337, fk2_338, rfl, rfl, hW339, hF340, e341, e342, e343, p344, p345, q346⟩ := hq
          have hF347 := Fr_tr hF285 hF340 (Fr_sub (by decide)) (Fr_sub (by decide))
          have hP348 := Pf_f hP286 hF340 (by decide)
          have bat2_336 : (0 : Int) ≤ at2_336 ∧ at2_336 ≤ 3002 := e341 ▸ hW339.1 10
          have ztk2_337 := tz_b tk2_337
          have btk2_337 : (0 : Int) ≤ tk2_337 ∧ tk2_337 ≤ 5 := e342 ▸ hW339.1 11
          have bfk2_338 : (0 : Int) ≤ fk2_338 ∧ fk2_338 ≤ 6 := e343 ▸ hW339.1 16
          refine .inl ⟨rfl, ?_⟩
          rcases q346 with ⟨a349, a350, a351, a352⟩ | ⟨a353, a354, a355, a356⟩
          · have _q : True := trivial
            refine jx_ld (pc' := 25) (l' := L300) (st' := [.ref 66]) rfl (jl_aloadn gL300_0) ?_
            refine jx_ar (pc' := 26) (st' := [.ref 66, .ref 66]) rfl rfl rfl rfl ?_
            refine jr_get (pc' := 29) (i := 15) (v := .int (i32 (op2_266))) rfl rfl (by decide) (rFv_eq (by decide) (show G334 15 = op2_266 from ((hF340.1 15 rfl).trans (e275)))) rfl ?_
            refine jx_ar (pc' := 30) (st' := [.int (i32 (1)), .int (i32 (op2_266)), .ref 66]) rfl rfl rfl rfl ?_
            refine jx_sub (pc' := 31) rfl rfl ?_
            refine jr_put (pc' := 34) (i := 15) (z := (op2_266 - 1)) rfl rfl (by decide) rfl rfl rfl rfl rfl rfl ?_
            have hW357 : Wk (uG G334 15 ((op2_266 - 1))) A335 := Wk_g hW339 (show (-2147483648 : Int) ≤ (op2_266 - 1) by omega) (show (op2_266 - 1) ≤ (2147483647 : Int) by omega)
            have hF358 := Fr_g (z := (op2_266 - 1)) (i := 15) hF347 (by decide)
            refine jx_ld (pc' := 35) (l' := L300) (st' := [.int (i32 (r263))]) rfl (jl_iloadn gL300_1) ?_
            refine jx_rt (v := some (.int (i32 (r263)))) rfl rfl rfl rfl rfl rfl ?_
            have z359 := tz_f (tk2_337)
            exact ⟨_, _, _, at2_336, fk2_338, (op2_266 - 1), nd2_267, tk2_337, rfl, rfl, hW357, hF358, hP348, by omega, (e341), (e343), rfl, ((hF340.1 31 rfl).trans (e276)), (e342), by omega, by omega, by omega, by omega, by omega, by omega, by first | exact Or.inl (⟨by omega, by omega, by omega⟩)⟩
          · have _q : True := trivial
            exfalso
            omega
      · have _q : True := trivial
        refine jx_ld (pc' := 14) (l' := jSto1 [(0, .ref 66)] 1 (.int (i32 (r263)))) (st' := []) rfl rfl ?_
        obtain ⟨L360, eL360⟩ : ∃ q, q = jSto1 [(0, .ref 66)] 1 (.int (i32 (r263))) := ⟨_, rfl⟩
        rw [← eL360]
        have gL360_0 : jGet L360 0 = some (.ref 66) := eL360 ▸ jg_ne (by decide) (rfl : jGet [(0, .ref 66)] 0 = some (.ref 66)) rfl
        have gL360_1 : jGet L360 1 = some (.int (i32 (r263))) := eL360 ▸ jg_eq
        refine jx_ld (pc' := 15) (l' := L360) (st' := [.ref 66]) rfl (jl_aloadn gL360_0) ?_
        refine jx_ld (pc' := 16) (l' := L360) (st' := [.ref 66, .ref 66]) rfl (jl_aloadn gL360_0) ?_
        refine jx_ar (pc' := 18) (st' := [.int (i32 (93)), .ref 66, .ref 66]) rfl rfl rfl rfl ?_
        have b361 : (-2147483648 : Int) ≤ G261 13 ∧ G261 13 ≤ 2147483647 := hW269.1 13
        refine jx_vr (pc' := 21) (as := [.int (i32 (93))]) (st := [.ref 66]) rfl rfl rfl rfl ⟨rfl, rfl, Nat.le_of_ble_eq_true rfl⟩ rfl rfl (c_is (dd := d) (hd := by omega) (hW := hW269) (k := 93) (tk := tk2_268) (e_tk := show G261 11 = tk2_268 from (e277)) (tn := G261 13) (e_tn := show G261 13 = G261 13 from rfl)  (h_k := ⟨(by decide), (by decide)⟩)  ) (fun o V' hq => ?_)
        obtain ⟨r362, rfl, rfl, b363, q364⟩ := hq
        refine .inr ⟨_, rfl, ?_⟩
        rcases q364 with ⟨rfl, a365, a366, a367⟩ | rfl
        · have _q : True := trivial
          refine jx_vr (pc' := 24) (as := [.int (i32 (1))]) (st := []) rfl rfl rfl rfl ⟨rfl, rfl, Nat.le_of_ble_eq_true rfl⟩ rfl rfl (c_need (dd := d) (hd := by omega) (hW := hW269) (g := 1) (ln := ln) (e_ln := show G261 9 = ln from ((hF270.1 9 rfl).trans ((hF145.1 9 rfl).trans ((hF6.1 9 rfl).trans (e_ln))))) (le := le) (e_le := show A262 4 (ln).toNat = le from (congrFun ((hF270.2 4 rfl).trans ((hF145.2 4 rfl).trans (hF6.2 4 rfl))) _).trans (e_le)) (at0 := at2_264) (e_at0 := show G261 10 = at2_264 from (e273)) (fk := fk2_265) (e_fk := show G261 16 = fk2_265 from (e274)) (tk0 := tk2_268) (e_tk0 := show G261 11 = tk2_268 from (e277))  (h_g := ⟨(by decide), (by decide)⟩)  (p_0 := by omega)) (fun o V' hq => ?_)
          obtain ⟨G368, A369, at2_370, tk2_371, fk2_372, rfl, rfl, hW373, hF374, e375, e376, e377, p378, p379, q380⟩ := hq
          have hF381 := Fr_tr hF285 hF374 (Fr_sub (by decide)) (Fr_sub (by decide))
          have hP382 := Pf_f hP286 hF374 (by decide)
          have sf383 : wE A369 Vs sb (2 * k + 2) (r263) (nd) (nd2_267) := wE_ag (by omega) (Sg_fr hF374 (by decide)) (Ag_fr hF374 (by decide)) a299
          have bat2_370 : (0 : Int) ≤ at2_370 ∧ at2_370 ≤ 3002 := e375 ▸ hW373.1 10
          have ztk2_371 := tz_b tk2_371
          have btk2_371 : (0 : Int) ≤ tk2_371 ∧ tk2_371 ≤ 5 := e376 ▸ hW373.1 11
          have bfk2_372 : (0 : Int) ≤ fk2_372 ∧ fk2_372 ≤ 6 := e377 ▸ hW373.1 16
          refine .inl ⟨rfl, ?_⟩
          rcases q380 with ⟨a384, a385, a386, a387⟩ | ⟨a388, a389, a390, a391⟩
          · have _q : True := trivial
            refine jx_ld (pc' := 25) (l' := L360) (st' := [.ref 66]) rfl (jl_aloadn gL360_0) ?_
            refine jx_ar (pc' := 26) (st' := [.ref 66, .ref 66]) rfl rfl rfl rfl ?_
            refine jr_get (pc' := 29) (i := 15) (v := .int (i32 (op2_266))) rfl rfl (by decide) (rFv_eq (by decide) (show G368 15 = op2_266 from ((hF374.1 15 rfl).trans (e275)))) rfl ?_
            refine jx_ar (pc' := 30) (st' := [.int (i32 (1)), .int (i32 (op2_266)), .ref 66]) rfl rfl rfl rfl ?_
            refine jx_sub (pc' := 31) rfl rfl ?_
            refine jr_put (pc' := 34) (i := 15) (z := (op2_266 - 1)) rfl rfl (by decide) rfl rfl rfl rfl rfl rfl ?_
            have hW392 : Wk (uG G368 15 ((op2_266 - 1))) A369 := Wk_g hW373 (show (-2147483648 : Int) ≤ (op2_266 - 1) by omega) (show (op2_266 - 1) ≤ (2147483647 : Int) by omega)
            have hF393 := Fr_g (z := (op2_266 - 1)) (i := 15) hF381 (by decide)
            refine jx_ld (pc' := 35) (l' := L360) (st' := [.int (i32 (r263))]) rfl (jl_iloadn gL360_1) ?_
            refine jx_rt (v := some (.int (i32 (r263)))) rfl rfl rfl rfl rfl rfl ?_
            have z394 := tz_f (tk2_371)
            exact ⟨_, _, _, at2_370, fk2_372, (op2_266 - 1), nd2_267, tk2_371, rfl, rfl, hW392, hF393, hP382, by omega, (e375), (e377), rfl, ((hF374.1 31 rfl).trans (e276)), (e376), by omega, by omega, by omega, by omega, by omega, by omega, by first | exact Or.inl (⟨by omega, by omega, by omega⟩)⟩
          · have _q : True := trivial
            refine jx_ld (pc' := 25) (l' := L360) (st' := [.ref 66]) rfl (jl_aloadn gL360_0) ?_
            refine jx_ar (pc' := 26) (st' := [.ref 66, .ref 66]) rfl rfl rfl rfl ?_
            refine jr_get (pc' := 29) (i := 15) (v := .int (i32 (op2_266))) rfl rfl (by decide) (rFv_eq (by decide) (show G368 15 = op2_266 from ((hF374.1 15 rfl).trans (e275)))) rfl ?_
            refine jx_ar (pc' := 30) (st' := [.int (i32 (1)), .int (i32 (op2_266)), .ref 66]) rfl rfl rfl rfl ?_
            refine jx_sub (pc' := 31) rfl rfl ?_
            refine jr_put (pc' := 34) (i := 15) (z := (op2_266 - 1)) rfl rfl (by decide) rfl rfl rfl rfl rfl rfl ?_
            have hW395 : Wk (uG G368 15 ((op2_266 - 1))) A369 := Wk_g hW373 (show (-2147483648 : Int) ≤ (op2_266 - 1) by omega) (show (op2_266 - 1) ≤ (2147483647 : Int) by omega)
            have hF396 := Fr_g (z := (op2_266 - 1)) (i := 15) hF381 (by decide)
            refine jx_ld (pc' := 35) (l' := L360) (st' := [.int (i32 (r263))]) rfl (jl_iloadn gL360_1) ?_
            refine jx_rt (v := some (.int (i32 (r263)))) rfl rfl rfl rfl rfl rfl ?_
            have z397 := tz_f (tk2_371)
            exact ⟨_, _, _, at2_370, fk2_372, (op2_266 - 1), nd2_267, tk2_371, rfl, rfl, hW395, hF396, hP382, by omega, (e375), (e377), rfl, ((hF374.1 31 rfl).trans (e276)), (e376), by omega, by omega, by omega, by omega, by omega, by omega, by first | exact Or.inr ((⟨by omega, by omega, by omega, sf383⟩))⟩
        · have _q : True := trivial
          refine jx_vr (pc' := 24) (as := [.int (i32 (0))]) (st := []) rfl rfl rfl rfl ⟨rfl, rfl, Nat.le_of_ble_eq_true rfl⟩ rfl rfl (c_need (dd := d) (hd := by omega) (hW := hW269) (g := 0) (ln := ln) (e_ln := show G261 9 = ln from ((hF270.1 9 rfl).trans ((hF145.1 9 rfl).trans ((hF6.1 9 rfl).trans (e_ln))))) (le := le) (e_le := show A262 4 (ln).toNat = le from (congrFun ((hF270.2 4 rfl).trans ((hF145.2 4 rfl).trans (hF6.2 4 rfl))) _).trans (e_le)) (at0 := at2_264) (e_at0 := show G261 10 = at2_264 from (e273)) (fk := fk2_265) (e_fk := show G261 16 = fk2_265 from (e274)) (tk0 := tk2_268) (e_tk0 := show G261 11 = tk2_268 from (e277))  (h_g := ⟨(by decide), (by decide)⟩)  (p_0 := by omega)) (fun o V' hq => ?_)
          obtain ⟨G398, A399, at2_400, tk2_401, fk2_402, rfl, rfl, hW403, hF404, e405, e406, e407, p408, p409, q410⟩ := hq
          have hF411 := Fr_tr hF285 hF404 (Fr_sub (by decide)) (Fr_sub (by decide))
          have hP412 := Pf_f hP286 hF404 (by decide)
          have sf413 : wE A399 Vs sb (2 * k + 2) (r263) (nd) (nd2_267) := wE_ag (by omega) (Sg_fr hF404 (by decide)) (Ag_fr hF404 (by decide)) a299
          have bat2_400 : (0 : Int) ≤ at2_400 ∧ at2_400 ≤ 3002 := e405 ▸ hW403.1 10
          have ztk2_401 := tz_b tk2_401
          have btk2_401 : (0 : Int) ≤ tk2_401 ∧ tk2_401 ≤ 5 := e406 ▸ hW403.1 11
          have bfk2_402 : (0 : Int) ≤ fk2_402 ∧ fk2_402 ≤ 6 := e407 ▸ hW403.1 16
          refine .inl ⟨rfl, ?_⟩
          rcases q410 with ⟨a414, a415, a416, a417⟩ | ⟨a418, a419, a420, a421⟩
          · have _q : True := trivial
            refine jx_ld (pc' := 25) (l' := L360) (st' := [.ref 66]) rfl (jl_aloadn gL360_0) ?_
            refine jx_ar (pc' := 26) (st' := [.ref 66, .ref 66]) rfl rfl rfl rfl ?_
            refine jr_get (pc' := 29) (i := 15) (v := .int (i32 (op2_266))) rfl rfl (by decide) (rFv_eq (by decide) (show G398 15 = op2_266 from ((hF404.1 15 rfl).trans (e275)))) rfl ?_
            refine jx_ar (pc' := 30) (st' := [.int (i32 (1)), .int (i32 (op2_266)), .ref 66]) rfl rfl rfl rfl ?_
            refine jx_sub (pc' := 31) rfl rfl ?_
            refine jr_put (pc' := 34) (i := 15) (z := (op2_266 - 1)) rfl rfl (by decide) rfl rfl rfl rfl rfl rfl ?_
            have hW422 : Wk (uG G398 15 ((op2_266 - 1))) A399 := Wk_g hW403 (show (-2147483648 : Int) ≤ (op2_266 - 1) by omega) (show (op2_266 - 1) ≤ (2147483647 : Int) by omega)
            have hF423 := Fr_g (z := (op2_266 - 1)) (i := 15) hF411 (by decide)
            refine jx_ld (pc' := 35) (l' := L360) (st' := [.int (i32 (r263))]) rfl (jl_iloadn gL360_1) ?_
            refine jx_rt (v := some (.int (i32 (r263)))) rfl rfl rfl rfl rfl rfl ?_
            have z424 := tz_f (tk2_401)
            exact ⟨_, _, _, at2_400, fk2_402, (op2_266 - 1), nd2_267, tk2_401, rfl, rfl, hW422, hF423, hP412, by omega, (e405), (e407), rfl, ((hF404.1 31 rfl).trans (e276)), (e406), by omega, by omega, by omega, by omega, by omega, by omega, by first | exact Or.inl (⟨by omega, by omega, by omega⟩)⟩
          · have _q : True := trivial
            exfalso
            omega
set_option maxRecDepth 20000 in
set_option maxHeartbeats 4000000 in
theorem c_readValue {X : jX} {k : Nat} (hE : RE X k) {dd : Nat} {Vs : Nat → Prop} {sb : Int} {c0 c1 : jC} {G : Nat → Int} {A : Nat → Nat → Int} {T : jH} {s place : Int} {ln le at0 fk op0 nd tk0 : Int} (hd : 6 * k + 13 ≤ dd) (hW : Wk G A) (e_ln : G 9 = ln) (e_le : A 4 (ln).toNat = le) (e_at0 : G 10 = at0) (e_fk : G 16 = fk) (e_op0 : G 15 = op0) (e_nd : G 31 = nd) (e_tk0 : G 11 = tk0) (i_SV : SV Vs sb G A) (h_s : (-2147483648 : Int) ≤ s ∧ s ≤ 2147483647) (h_place : (-2147483648 : Int) ≤ place ∧ place ≤ 2147483647) (p_0 : 0 ≤ op0) (p_1 : op0 ≤ 9) (p_2 : op0 ≤ 8 ∨ 1 ≤ fk) (p_3 : 9 - op0 ≤ ((k + 1 : Nat) : Int) ∨ 1 ≤ fk) (p_4 : nd ≤ 2 * at0 - tz tk0 + 50) (p_5 : at0 ≤ le) (p_6 : op0 ≤ 8) (p_7 : fk = 0) (p_8 : 0 ≤ s ∧ s ≤ 201) (p_9 : -3000 ≤ place ∧ place ≤ 3002) (p_10 : SY Vs sb (s)) : wk X dd 289 [.ref 66, .int (i32 s), .int (i32 place)] (rV c0 c1 G A T) (fun o V' => ∃ (G' : Nat → Int) (A' : Nat → Nat → Int) (r : Int) (at2 : Int) (fk2 : Int) (op2 : Int) (nd2 : Int) (tk2 : Int), V' = rV c0 c1 G' A' T ∧ o = .inl (some (.int (i32 r))) ∧ Wk G' A' ∧ Fr [10, 11, 12, 13, 14, 15, 16, 17, 18, 31] [15, 16, 17, 18, 19, 20, 21, 22, 24, 28] G A G' A' ∧ Pf nd A A' ∧ ((-2147483648 : Int) ≤ r ∧ r ≤ 2147483647) ∧ G' 10 = at2 ∧ G' 16 = fk2 ∧ G' 15 = op2 ∧ G' 31 = nd2 ∧ G' 11 = tk2 ∧ (at0 ≤ at2) ∧ (at2 ≤ le) ∧ (nd ≤ nd2) ∧ (op2 = op0) ∧ (0 ≤ r) ∧ (r ≤ nd2) ∧ (((fk = 0) ∧ (1 ≤ fk2) ∧ (nd2 - nd ≤ (2 * at2 - tz tk2) - (2 * at0 - tz tk0) + 2)) ∨ ((fk = 0) ∧ (fk2 = 0) ∧ (nd2 - nd ≤ (2 * at2 - tz tk2) - (2 * at0 - tz tk0) + 1) ∧ (wE A' Vs sb (2 * k + 3) (r) (nd) (nd2))))) := by
  obtain ⟨d, rfl⟩ : ∃ d, dd = d + 1 := ⟨dd - 1, by omega⟩
  refine wk_of (e := jm289) rfl (Nat.le_of_ble_eq_true rfl) ?_
  show wj X d jm289 (0, [(0, .ref 66), (1, .int (i32 (s))), (2, .int (i32 (place)))], [], rV c0 c1 G A T) _
  have hF0 : Fr [10, 11, 12, 13, 14, 15, 16, 17, 18, 31] [15, 16, 17, 18, 19, 20, 21, 22, 24, 28] G A G A := Fr_rf
  have hP0 : Pf nd A A := Pf_rf
  have b_ln : (0 : Int) ≤ ln ∧ ln ≤ 3000 := e_ln ▸ hW.1 9
  have b_le : (0 : Int) ≤ le ∧ le ≤ 3000 := e_le ▸ hW.2 4 _
  have b_at0 : (0 : Int) ≤ at0 ∧ at0 ≤ 3002 := e_at0 ▸ hW.1 10
  have b_fk : (0 : Int) ≤ fk ∧ fk ≤ 6 := e_fk ▸ hW.1 16
  have b_op0 : (-2147483648 : Int) ≤ op0 ∧ op0 ≤ 2147483647 := e_op0 ▸ hW.1 15
  have b_nd : (0 : Int) ≤ nd ∧ nd ≤ 6999 := e_nd ▸ hW.1 31
  have z_tk0 := tz_f tk0
  have b_tk0 : (0 : Int) ≤ tk0 ∧ tk0 ≤ 5 := e_tk0 ▸ hW.1 11
  refine jx_ld (pc' := 1) (l' := [(0, .ref 66), (1, .int (i32 (s))), (2, .int (i32 (place)))]) (st' := [.ref 66]) rfl (jl_aloadn rfl) ?_
  refine jx_ar (pc' := 3) (st' := [.int (i32 (91)), .ref 66]) rfl rfl rfl rfl ?_
  have b1 : (-2147483648 : Int) ≤ G 13 ∧ G 13 ≤ 2147483647 := hW.1 13
  refine jx_vr (pc' := 6) (as := [.int (i32 (91))]) (st := []) rfl rfl rfl rfl ⟨rfl, rfl, Nat.le_of_ble_eq_true rfl⟩ rfl rfl (c_is (dd := d) (hd := by omega) (hW := hW) (k := 91) (tk := tk0) (e_tk := show G 11 = tk0 from (e_tk0)) (tn := G 13) (e_tn := show G 13 = G 13 from rfl)  (h_k := ⟨(by decide), (by decide)⟩)  ) (fun o V' hq => ?_)
  obtain ⟨r2, rfl, rfl, b3, q4⟩ := hq
  refine .inr ⟨_, rfl, ?_⟩
  rcases q4 with ⟨rfl, a5, a6, a7⟩ | rfl
  · have _q : True := trivial
    refine jx_if_eq (pc' := 9) (tg := 44) rfl rfl rfl (by decide) (by decide) (fun h8 => ?_) (fun h8 => ?_)
    · have _q := h8
      exact absurd h8 (by omega)
    · have _q := h8
      refine jx_ld (pc' := 10) (l' := [(0, .ref 66), (1, .int (i32 (s))), (2, .int (i32 (place)))]) (st' := [.ref 66]) rfl (jl_aloadn rfl) ?_
      refine jr_get (pc' := 13) (i := 21) (v := .ref 74) rfl rfl (by decide) rfl rfl ?_
      refine jx_ld (pc' := 14) (l' := [(0, .ref 66), (1, .int (i32 (s))), (2, .int (i32 (place)))]) (st' := [.int (i32 (s)), .ref 74]) rfl (jl_iloadn rfl) ?_
      have b9 : (0 : Int) ≤ A 7 (s).toNat ∧ A 7 (s).toNat ≤ 14 := hW.2 7 _
      refine jr_ldv (pc' := 15) (i := 7) (m := 260) (z := s) (y := A 7 (s).toNat) rfl (by decide) rfl (by decide) (by omega) (by omega) rfl (show A 7 (s).toNat = A 7 (s).toNat from rfl) ?_
      refine jx_st (pc' := 18) (as := [.int (i32 (A 7 (s).toNat))]) (st := []) rfl rfl ⟨rfl, Nat.le_of_ble_eq_true rfl⟩ rfl rfl rfl (c_isArray (dd := d) (hd := by omega) (k := A 7 (s).toNat)   (h_k := ⟨(Int.le_trans (by decide : (-2147483648 : Int) ≤ 0) b9.1), (Int.le_trans b9.2 (by decide : (14 : Int) ≤ 2147483647))⟩)  ) (fun o V' hq => ?_)
      obtain ⟨r10, rfl, rfl, b11, q12⟩ := hq
      refine .inr ⟨_, rfl, ?_⟩
      rcases q12 with ⟨rfl, a13⟩ | rfl
      · have _q : True := trivial
        refine jx_if_ne (pc' := 21) (tg := 29) rfl rfl rfl (by decide) (by decide) (fun h14 => ?_) (fun h14 => ?_)
        · have _q := h14
          refine jx_ld (pc' := 30) (l' := [(0, .ref 66), (1, .int (i32 (s))), (2, .int (i32 (place)))]) (st' := [.ref 66]) rfl (jl_aloadn rfl) ?_
          refine jx_vr (pc' := 33) (as := []) (st := []) rfl rfl rfl rfl ⟨rfl, rfl, Nat.le_of_ble_eq_true rfl⟩ rfl rfl (c_readIndex (dd := d) (hE := hE) (hd := by omega) (hW := hW)  (ln := ln) (e_ln := show G 9 = ln from (e_ln)) (le := le) (e_le := show A 4 (ln).toNat = le from (e_le)) (at0 := at0) (e_at0 := show G 10 = at0 from (e_at0)) (fk := fk) (e_fk := show G 16 = fk from (e_fk)) (op0 := op0) (e_op0 := show G 15 = op0 from (e_op0)) (nd := nd) (e_nd := show G 31 = nd from (e_nd)) (tk0 := tk0) (e_tk0 := show G 11 = tk0 from (e_tk0)) (i_SV := (SV_ext (rfl) (rfl) i_SV))   (p_0 := by omega) (p_1 := by omega) (p_2 := by omega) (p_3 := by omega) (p_4 := by omega) (p_5 := by omega) (p_6 := by omega) (p_7 := by omega) (p_8 := by omega)) (fun o V' hq => ?_)
          obtain ⟨G15, A16, r17, at2_18, fk2_19, op2_20, nd2_21, tk2_22, rfl, rfl, hW23, hF24, hQ25, b26, e27, e28, e29, e30, e31, p32, p33, p34, p35, p36, p37, q38⟩ := hq
          have hF39 := Fr_tr hF0 hF24 (Fr_sub (by decide)) (Fr_sub (by decide))
          have hP40 := Pf_tr hP0 hQ25 (by omega)
          have bat2_18 : (0 : Int) ≤ at2_18 ∧ at2_18 ≤ 3002 := e27 ▸ hW23.1 10
          have bfk2_19 : (0 : Int) ≤ fk2_19 ∧ fk2_19 ≤ 6 := e28 ▸ hW23.1 16
          have bop2_20 : (-2147483648 : Int) ≤ op2_20 ∧ op2_20 ≤ 2147483647 := e29 ▸ hW23.1 15
          have bnd2_21 : (0 : Int) ≤ nd2_21 ∧ nd2_21 ≤ 6999 := e30 ▸ hW23.1 31
          have ztk2_22 := tz_b tk2_22
          have btk2_22 : (0 : Int) ≤ tk2_22 ∧ tk2_22 ≤ 5 := e31 ▸ hW23.1 11
          refine .inr ⟨_, rfl, ?_⟩
          rcases q38 with ⟨a41, a42, a43⟩ | ⟨a44, a45, a46, a47⟩
          · have _q : True := trivial
            refine jx_ld (pc' := 34) (l' := jSto1 [(0, .ref 66), (1, .int (i32 (s))), (2, .int (i32 (place)))] 3 (.int (i32 (r17)))) (st' := []) rfl rfl ?_
            obtain ⟨L48, eL48⟩ : ∃ q, q = jSto1 [(0, .ref 66), (1, .int (i32 (s))), (2, .int (i32 (place)))] 3 (.int (i32 (r17))) := ⟨_, rfl⟩
            rw [← eL48]
            have gL48_0 : jGet L48 0 = some (.ref 66) := eL48 ▸ jg_ne (by decide) (rfl : jGet [(0, .ref 66), (1, .int (i32 (s))), (2, .int (i32 (place)))] 0 = some (.ref 66)) rfl
            have gL48_1 : jGet L48 1 = some (.int (i32 (s))) := eL48 ▸ jg_ne (by decide) (rfl : jGet [(0, .ref 66), (1, .int (i32 (s))), (2, .int (i32 (place)))] 1 = some (.int (i32 (s)))) rfl
            have gL48_2 : jGet L48 2 = some (.int (i32 (place))) := eL48 ▸ jg_ne (by decide) (rfl : jGet [(0, .ref 66), (1, .int (i32 (s))), (2, .int (i32 (place)))] 2 = some (.int (i32 (place)))) rfl
            have gL48_3 : jGet L48 3 = some (.int (i32 (r17))) := eL48 ▸ jg_eq
            refine jx_ld (pc' := 35) (l' := L48) (st' := [.ref 66]) rfl (jl_aloadn gL48_0) ?_
            refine jx_ar (pc' := 36) (st' := [.int (i32 (3)), .ref 66]) rfl rfl rfl rfl ?_
            refine jx_ld (pc' := 37) (l' := L48) (st' := [.int (i32 (s)), .int (i32 (3)), .ref 66]) rfl (jl_iloadn gL48_1) ?_
            refine jx_ld (pc' := 38) (l' := L48) (st' := [.int (i32 (r17)), .int (i32 (s)), .int (i32 (3)), .ref 66]) rfl (jl_iloadn gL48_3) ?_
            refine jx_ar (pc' := 39) (st' := [.int (i32 (0)), .int (i32 (r17)), .int (i32 (s)), .int (i32 (3)), .ref 66]) rfl rfl rfl rfl ?_
            refine jx_ar (pc' := 40) (st' := [.int (i32 (0)), .int (i32 (0)), .int (i32 (r17)), .int (i32 (s)), .int (i32 (3)), .ref 66]) rfl rfl rfl rfl ?_
            refine jx_vr (pc' := 43) (as := [.int (i32 (3)), .int (i32 (s)), .int (i32 (r17)), .int (i32 (0)), .int (i32 (0))]) (st := []) rfl rfl rfl rfl ⟨rfl, rfl, Nat.le_of_ble_eq_true rfl⟩ rfl rfl (c_node (dd := d) (hd := by omega) (hW := hW23) (kind := 3) (a := s) (b := r17) (c := 0) (e := 0) (nd := nd2_21) (e_nd := show G15 31 = nd2_21 from (e30))  (h_kind := ⟨(by decide), (by decide)⟩) (h_a := ⟨(Int.le_trans (by decide : (-2147483648 : Int) ≤ -2147483648) h_s.1), (Int.le_trans h_s.2 (by decide : (2147483647 : Int) ≤ 2147483647))⟩) (h_b := ⟨(Int.le_trans (by decide : (-2147483648 : Int) ≤ -2147483648) b26.1), (Int.le_trans b26.2 (by decide : (2147483647 : Int) ≤ 2147483647))⟩) (h_c := ⟨(by decide), (by decide)⟩) (h_e := ⟨(by decide), (by decide)⟩)  (p_0 := by omega) (p_1 := by omega)) (fun o V' hq => ?_)
            obtain ⟨G49, A50, nd2_51, rfl, rfl, hW52, hF53, hQ54, e55, p56, p57, -⟩ := hq
            have hF59 := Fr_tr hF39 hF53 (Fr_sub (by decide)) (Fr_sub (by decide))
            have hP60 := Pf_tr hP40 hQ54 (by omega)
            have bnd2_51 : (0 : Int) ≤ nd2_51 ∧ nd2_51 ≤ 6999 := e55 ▸ hW52.1 31
            refine .inr ⟨_, rfl, ?_⟩
            refine jx_rt (v := some (.int (i32 (nd2_21)))) rfl rfl rfl rfl rfl rfl ?_
            have z61 := tz_f (tk2_22)
            exact ⟨_, _, _, at2_18, fk2_19, op2_20, nd2_51, tk2_22, rfl, rfl, hW52, hF59, hP60, by omega, ((hF53.1 10 rfl).trans (e27)), ((hF53.1 16 rfl).trans (e28)), ((hF53.1 15 rfl).trans (e29)), (e55), ((hF53.1 11 rfl).trans (e31)), by omega, by omega, by omega, by omega, by omega, by omega, by first | exact Or.inl (⟨by omega, by omega, by omega⟩)⟩
          · have _q : True := trivial
            refine jx_ld (pc' := 34) (l' := jSto1 [(0, .ref 66), (1, .int (i32 (s))), (2, .int (i32 (place)))] 3 (.int (i32 (r17)))) (st' := []) rfl rfl ?_
            obtain ⟨L62, eL62⟩ : ∃ q, q = jSto1 [(0, .ref 66), (1, .int (i32 (s))), (2, .int (i32 (place)))] 3 (.int (i32 (r17))) := ⟨_, rfl⟩
            rw [← eL62]
            have gL62_0 : jGet L62 0 = some (.ref 66) := eL62 ▸ jg_ne (by decide) (rfl : jGet [(0, .ref 66), (1, .int (i32 (s))), (2, .int (i32 (place)))] 0 = some (.ref 66)) rfl
            have gL62_1 : jGet L62 1 = some (.int (i32 (s))) := eL62 ▸ jg_ne (by decide) (rfl : jGet [(0, .ref 66), (1, .int (i32 (s))), (2, .int (i32 (place)))] 1 = some (.int (i32 (s)))) rfl
            have gL62_2 : jGet L62 2 = some (.int (i32 (place))) := eL62 ▸ jg_ne (by decide) (rfl : jGet [(0, .ref 66), (1, .int (i32 (s))), (2, .int (i32 (place)))] 2 = some (.int (i32 (place)))) rfl
            have gL62_3 : jGet L62 3 = some (.int (i32 (r17))) := eL62 ▸ jg_eq
            refine jx_ld (pc' := 35) (l' := L62) (st' := [.ref 66]) rfl (jl_aloadn gL62_0) ?_
            refine jx_ar (pc' := 36) (st' := [.int (i32 (3)), .ref 66]) rfl rfl rfl rfl ?_
            refine jx_ld (pc' := 37) (l' := L62) (st' := [.int (i32 (s)), .int (i32 (3)), .ref 66]) rfl (jl_iloadn gL62_1) ?_
            refine jx_ld (pc' := 38) (l' := L62) (st' := [.int (i32 (r17)), .int (i32 (s)), .int (i32 (3)), .ref 66]) rfl (jl_iloadn gL62_3) ?_
            refine jx_ar (pc' := 39) (st' := [.int (i32 (0)), .int (i32 (r17)), .int (i32 (s)), .int (i32 (3)), .ref 66]) rfl rfl rfl rfl ?_
            refine jx_ar (pc' := 40) (st' := [.int (i32 (0)), .int (i32 (0)), .int (i32 (r17)), .int (i32 (s)), .int (i32 (3)), .ref 66]) rfl rfl rfl rfl ?_
            refine jx_vr (pc' := 43) (as := [.int (i32 (3)), .int (i32 (s)), .int (i32 (r17)), .int (i32 (0)), .int (i32 (0))]) (st := []) rfl rfl rfl rfl ⟨rfl, rfl, Nat.le_of_ble_eq_true rfl⟩ rfl rfl (c_node (dd := d) (hd := by omega) (hW := hW23) (kind := 3) (a := s) (b := r17) (c := 0) (e := 0) (nd := nd2_21) (e_nd := show G15 31 = nd2_21 from (e30))  (h_kind := ⟨(by decide), (by decide)⟩) (h_a := ⟨(Int.le_trans (by decide : (-2147483648 : Int) ≤ -2147483648) h_s.1), (Int.le_trans h_s.2 (by decide : (2147483647 : Int) ≤ 2147483647))⟩) (h_b := ⟨(Int.le_trans (by decide : (-2147483648 : Int) ≤ -2147483648) b26.1), (Int.le_trans b26.2 (by decide : (2147483647 : Int) ≤ 2147483647))⟩) (h_c := ⟨(by decide), (by decide)⟩) (h_e := ⟨(by decide), (by decide)⟩)  (p_0 := by omega) (p_1 := by omega)) (fun o V' hq => ?_)
            obtain ⟨G63, A64, nd2_65, rfl, rfl, hW66, hF67, hQ68, e69, p70, p71, -⟩ := hq
            have hF73 := Fr_tr hF39 hF67 (Fr_sub (by decide)) (Fr_sub (by decide))
            have hP74 := Pf_tr hP40 hQ68 (by omega)
            have sf75 : wE A64 Vs sb (2 * k + 2) (r17) (nd) (nd2_21) := wE_ag (by omega) (Sg_fr hF67 (by decide)) (Ag_pf hQ68 (by omega)) a47
            have bnd2_65 : (0 : Int) ≤ nd2_65 ∧ nd2_65 ≤ 6999 := e69 ▸ hW66.1 31
            refine .inr ⟨_, rfl, ?_⟩
            refine jx_rt (v := some (.int (i32 (nd2_21)))) rfl rfl rfl rfl rfl rfl ?_
            have z76 := tz_f (tk2_22)
            exact ⟨_, _, _, at2_18, fk2_19, op2_20, nd2_65, tk2_22, rfl, rfl, hW66, hF73, hP74, by omega, ((hF67.1 10 rfl).trans (e27)), ((hF67.1 16 rfl).trans (e28)), ((hF67.1 15 rfl).trans (e29)), (e69), ((hF67.1 11 rfl).trans (e31)), by omega, by omega, by omega, by omega, by omega, by omega, by first | exact Or.inr ((⟨by omega, by omega, by omega, (wE_elem p71 (by omega) (by omega) p_10 (kq (P := kArr) (show A64 7 (s).toNat = A 7 (s).toNat from (congrFun ((hF67.2 7 rfl).trans (hF24.2 7 rfl)) _)) a13) (wE_mono (by omega) (by omega) (by omega) sf75))⟩))⟩
        · have _q := h14
          exact absurd h14 (by omega)
      · have _q : True := trivial
        refine jx_if_ne (pc' := 21) (tg := 29) rfl rfl rfl (by decide) (by decide) (fun h77 => ?_) (fun h77 => ?_)
        · have _q := h77
          exact absurd h77 (by omega)
        · have _q := h77
          refine jx_ld (pc' := 22) (l' := [(0, .ref 66), (1, .int (i32 (s))), (2, .int (i32 (place)))]) (st' := [.ref 66]) rfl (jl_aloadn rfl) ?_
          refine jx_ar (pc' := 23) (st' := [.int (i32 (4)), .ref 66]) rfl rfl rfl rfl ?_
          refine jx_ld (pc' := 24) (l' := [(0, .ref 66), (1, .int (i32 (s))), (2, .int (i32 (place)))]) (st' := [.int (i32 (place)), .int (i32 (4)), .ref 66]) rfl (jl_iloadn rfl) ?_
          refine jx_vr (pc' := 27) (as := [.int (i32 (4)), .int (i32 (place))]) (st := []) rfl rfl rfl rfl ⟨rfl, rfl, Nat.le_of_ble_eq_true rfl⟩ rfl rfl (c_fail (dd := d) (hd := by omega) (hW := hW) (kind := 4) (place := place) (fk := fk) (e_fk := show G 16 = fk from (e_fk))  (h_kind := ⟨(by decide), (by decide)⟩) (h_place := ⟨(Int.le_trans (by decide : (-2147483648 : Int) ≤ -2147483648) h_place.1), (Int.le_trans h_place.2 (by decide : (2147483647 : Int) ≤ 2147483647))⟩)  (p_0 := by omega) (p_1 := by omega)) (fun o V' hq => ?_)
          obtain ⟨G78, A79, fk2_80, rfl, rfl, hW81, hF82, e83, p84, -⟩ := hq
          have hF86 := Fr_tr hF0 hF82 (Fr_sub (by decide)) (Fr_sub (by decide))
          have hP87 := Pf_f hP0 hF82 (by decide)
          have bfk2_80 : (0 : Int) ≤ fk2_80 ∧ fk2_80 ≤ 6 := e83 ▸ hW81.1 16
          refine .inl ⟨rfl, ?_⟩
          refine jx_ar (pc' := 28) (st' := [.int (i32 (0))]) rfl rfl rfl rfl ?_
          refine jx_rt (v := some (.int (i32 (0)))) rfl rfl rfl rfl rfl rfl ?_
          have z88 := tz_f (tk0)
          exact ⟨_, _, _, at0, fk2_80, op0, nd, tk0, rfl, rfl, hW81, hF86, hP87, by omega, ((hF82.1 10 rfl).trans (e_at0)), (e83), ((hF82.1 15 rfl).trans (e_op0)), ((hF82.1 31 rfl).trans (e_nd)), ((hF82.1 11 rfl).trans (e_tk0)), by omega, by omega, by omega, by omega, by omega, by omega, by first | exact Or.inl (⟨by omega, by omega, by omega⟩)⟩
  · have _q : True := trivial
    refine jx_if_eq (pc' := 9) (tg := 44) rfl rfl rfl (by decide) (by decide) (fun h89 => ?_) (fun h89 => ?_)
    · have _q := h89
      refine jx_ld (pc' := 45) (l' := [(0, .ref 66), (1, .int (i32 (s))), (2, .int (i32 (place)))]) (st' := [.ref 66]) rfl (jl_aloadn rfl) ?_
      refine jr_get (pc' := 48) (i := 21) (v := .ref 74) rfl rfl (by decide) rfl rfl ?_
      refine jx_ld (pc' := 49) (l' := [(0, .ref 66), (1, .int (i32 (s))), (2, .int (i32 (place)))]) (st' := [.int (i32 (s)), .ref 74]) rfl (jl_iloadn rfl) ?_
      have b90 : (0 : Int) ≤ A 7 (s).toNat ∧ A 7 (s).toNat ≤ 14 := hW.2 7 _
      refine jr_ldv (pc' := 50) (i := 7) (m := 260) (z := s) (y := A 7 (s).toNat) rfl (by decide) rfl (by decide) (by omega) (by omega) rfl (show A 7 (s).toNat = A 7 (s).toNat from rfl) ?_
      refine jx_st (pc' := 53) (as := [.int (i32 (A 7 (s).toNat))]) (st := []) rfl rfl ⟨rfl, Nat.le_of_ble_eq_true rfl⟩ rfl rfl rfl (c_isValue (dd := d) (hd := by omega) (k := A 7 (s).toNat)   (h_k := ⟨(Int.le_trans (by decide : (-2147483648 : Int) ≤ 0) b90.1), (Int.le_trans b90.2 (by decide : (14 : Int) ≤ 2147483647))⟩)  ) (fun o V' hq => ?_)
      obtain ⟨r91, rfl, rfl, b92, q93⟩ := hq
      refine .inr ⟨_, rfl, ?_⟩
      rcases q93 with ⟨rfl, a94⟩ | rfl
      · have _q : True := trivial
        refine jx_if_ne (pc' := 56) (tg := 64) rfl rfl rfl (by decide) (by decide) (fun h95 => ?_) (fun h95 => ?_)
        · have _q := h95
          refine jx_ld (pc' := 65) (l' := [(0, .ref 66), (1, .int (i32 (s))), (2, .int (i32 (place)))]) (st' := [.ref 66]) rfl (jl_aloadn rfl) ?_
          refine jx_ar (pc' := 66) (st' := [.int (i32 (2)), .ref 66]) rfl rfl rfl rfl ?_
          refine jx_ld (pc' := 67) (l' := [(0, .ref 66), (1, .int (i32 (s))), (2, .int (i32 (place)))]) (st' := [.int (i32 (s)), .int (i32 (2)), .ref 66]) rfl (jl_iloadn rfl) ?_
          refine jx_ar (pc' := 68) (st' := [.int (i32 (0)), .int (i32 (s)), .int (i32 (2)), .ref 66]) rfl rfl rfl rfl ?_
          refine jx_ar (pc' := 69) (st' := [.int (i32 (0)), .int (i32 (0)), .int (i32 (s)), .int (i32 (2)), .ref 66]) rfl rfl rfl rfl ?_
          refine jx_ar (pc' := 70) (st' := [.int (i32 (0)), .int (i32 (0)), .int (i32 (0)), .int (i32 (s)), .int (i32 (2)), .ref 66]) rfl rfl rfl rfl ?_
          refine jx_vr (pc' := 73) (as := [.int (i32 (2)), .int (i32 (s)), .int (i32 (0)), .int (i32 (0)), .int (i32 (0))]) (st := []) rfl rfl rfl rfl ⟨rfl, rfl, Nat.le_of_ble_eq_true rfl⟩ rfl rfl (c_node (dd := d) (hd := by omega) (hW := hW) (kind := 2) (a := s) (b := 0) (c := 0) (e := 0) (nd := nd) (e_nd := show G 31 = nd from (e_nd))  (h_kind := ⟨(by decide), (by decide)⟩) (h_a := ⟨(Int.le_trans (by decide : (-2147483648 : Int) ≤ -2147483648) h_s.1), (Int.le_trans h_s.2 (by decide : (2147483647 : Int) ≤ 2147483647))⟩) (h_b := ⟨(by decide), (by decide)⟩) (h_c := ⟨(by decide), (by decide)⟩) (h_e := ⟨(by decide), (by decide)⟩)  (p_0 := by omega) (p_1 := by omega)) (fun o V' hq => ?_)
          obtain ⟨G96, A97, nd2_98, rfl, rfl, hW99, hF100, hQ101, e102, p103, p104, -⟩ := hq
          have hF106 := Fr_tr hF0 hF100 (Fr_sub (by decide)) (Fr_sub (by decide))
          have hP107 := Pf_tr hP0 hQ101 (by omega)
          have bnd2_98 : (0 : Int) ≤ nd2_98 ∧ nd2_98 ≤ 6999 := e102 ▸ hW99.1 31
          refine .inr ⟨_, rfl, ?_⟩
          refine jx_rt (v := some (.int (i32 (nd)))) rfl rfl rfl rfl rfl rfl ?_
          have z108 := tz_f (tk0)
          exact ⟨_, _, _, at0, fk, op0, nd2_98, tk0, rfl, rfl, hW99, hF106, hP107, by omega, ((hF100.1 10 rfl).trans (e_at0)), ((hF100.1 16 rfl).trans (e_fk)), ((hF100.1 15 rfl).trans (e_op0)), (e102), ((hF100.1 11 rfl).trans (e_tk0)), by omega, by omega, by omega, by omega, by omega, by omega, by first | exact Or.inr ((⟨by omega, by omega, by omega, (wE_var p104 (by omega) (by omega) p_10 (kq (P := kVal) (show A97 7 (s).toNat = A 7 (s).toNat from (congrFun (hF100.2 7 rfl) _)) a94))⟩))⟩
        · have _q := h95
          exact absurd h95 (by omega)
      · have _q : True := trivial
        refine jx_if_ne (pc' := 56) (tg := 64) rfl rfl rfl (by decide) (by decide) (fun h109 => ?_) (fun h109 => ?_)
        · have _q := h109
          exact absurd h109 (by omega)
        · have _q := h109
          refine jx_ld (pc' := 57) (l' := [(0, .ref 66), (1, .int (i32 (s))), (2, .int (i32 (place)))]) (st' := [.ref 66]) rfl (jl_aloadn rfl) ?_
          refine jx_ar (pc' := 58) (st' := [.int (i32 (4)), .ref 66]) rfl rfl rfl rfl ?_
          refine jx_ld (pc' := 59) (l' := [(0, .ref 66), (1, .int (i32 (s))), (2, .int (i32 (place)))]) (st' := [.int (i32 (place)), .int (i32 (4)), .ref 66]) rfl (jl_iloadn rfl) ?_
          refine jx_vr (pc' := 62) (as := [.int (i32 (4)), .int (i32 (place))]) (st := []) rfl rfl rfl rfl ⟨rfl, rfl, Nat.le_of_ble_eq_true rfl⟩ rfl rfl (c_fail (dd := d) (hd := by omega) (hW := hW) (kind := 4) (place := place) (fk := fk) (e_fk := show G 16 = fk from (e_fk))  (h_kind := ⟨(by decide), (by decide)⟩) (h_place := ⟨(Int.le_trans (by decide : (-2147483648 : Int) ≤ -2147483648) h_place.1), (Int.le_trans h_place.2 (by decide : (2147483647 : Int) ≤ 2147483647))⟩)  (p_0 := by omega) (p_1 := by omega)) (fun o V' hq => ?_)
          obtain ⟨G110, A111, fk2_112, rfl, rfl, hW113, hF114, e115, p116, -⟩ := hq
          have hF118 := Fr_tr hF0 hF114 (Fr_sub (by decide)) (Fr_sub (by decide))
          have hP119 := Pf_f hP0 hF114 (by decide)
          have bfk2_112 : (0 : Int) ≤ fk2_112 ∧ fk2_112 ≤ 6 := e115 ▸ hW113.1 16
          refine .inl ⟨rfl, ?_⟩
          refine jx_ar (pc' := 63) (st' := [.int (i32 (0))]) rfl rfl rfl rfl ?_
          refine jx_rt (v := some (.int (i32 (0)))) rfl rfl rfl rfl rfl rfl ?_
          have z120 := tz_f (tk0)
          exact ⟨_, _, _, at0, fk2_112, op0, nd, tk0, rfl, rfl, hW113, hF118, hP119, by omega, ((hF114.1 10 rfl).trans (e_at0)), (e115), ((hF114.1 15 rfl).trans (e_op0)), ((hF114.1 31 rfl).trans (e_nd)), ((hF114.1 11 rfl).trans (e_tk0)), by omega, by omega, by omega, by omega, by omega, by omega, by first | exact Or.inl (⟨by omega, by omega, by omega⟩)⟩
    · have _q := h89
      exact absurd h89 (by omega)
set_option maxRecDepth 20000 in
set_option maxHeartbeats 4000000 in
theorem c_readOperand {X : jX} {k : Nat} (hE : RE X k) {dd : Nat} {Vs : Nat → Prop} {sb : Int} {c0 c1 : jC} {G : Nat → Int} {A : Nat → Nat → Int} {T : jH} {ln le at0 fk op0 nd tk0 : Int} (hd : 6 * k + 14 ≤ dd) (hW : Wk G A) (e_ln : G 9 = ln) (e_le : A 4 (ln).toNat = le) (e_at0 : G 10 = at0) (e_fk : G 16 = fk) (e_op0 : G 15 = op0) (e_nd : G 31 = nd) (e_tk0 : G 11 = tk0) (i_SV : SV Vs sb G A) (p_0 : 0 ≤ op0) (p_1 : op0 ≤ 9) (p_2 : op0 ≤ 8 ∨ 1 ≤ fk) (p_3 : 9 - op0 ≤ ((k + 1 : Nat) : Int) ∨ 1 ≤ fk) (p_4 : nd ≤ 2 * at0 - tz tk0 + 50) (p_5 : at0 ≤ le) : wk X dd 288 [.ref 66] (rV c0 c1 G A T) (fun o V' => ∃ (G' : Nat → Int) (A' : Nat → Nat → Int) (r : Int) (at2 : Int) (fk2 : Int) (op2 : Int) (nd2 : Int) (tk2 : Int), V' = rV c0 c1 G' A' T ∧ o = .inl (some (.int (i32 r))) ∧ Wk G' A' ∧ Fr [10, 11, 12, 13, 14, 15, 16, 17, 18, 31] [15, 16, 17, 18, 19, 20, 21, 22, 24, 28] G A G' A' ∧ Pf nd A A' ∧ ((-2147483648 : Int) ≤ r ∧ r ≤ 2147483647) ∧ G' 10 = at2 ∧ G' 16 = fk2 ∧ G' 15 = op2 ∧ G' 31 = nd2 ∧ G' 11 = tk2 ∧ (at0 ≤ at2) ∧ (at2 ≤ le) ∧ (nd ≤ nd2) ∧ (op2 = op0) ∧ (0 ≤ r) ∧ (r ≤ nd2) ∧ (((1 ≤ fk) ∧ (1 ≤ fk2) ∧ (nd2 = nd) ∧ (at2 = at0) ∧ (tk2 = tk0) ∧ (tz tk2 = tz tk0)) ∨ ((fk = 0) ∧ (1 ≤ fk2) ∧ (nd2 - nd ≤ (2 * at2 - tz tk2) - (2 * at0 - tz tk0) + 1)) ∨ ((fk = 0) ∧ (fk2 = 0) ∧ (nd2 - nd ≤ (2 * at2 - tz tk2) - (2 * at0 - tz tk0)) ∧ (wE A' Vs sb (2 * k + 3) (r) (nd) (nd2))))) := by
  obtain ⟨d, rfl⟩ : ∃ d, dd = d + 1 := ⟨dd - 1, by omega⟩
  refine wk_of (e := jm288) rfl (Nat.le_of_ble_eq_true rfl) ?_
  show wj X d jm288 (0, [(0, .ref 66)], [], rV c0 c1 G A T) _
  have hF0 : Fr [10, 11, 12, 13, 14, 15, 16, 17, 18, 31] [15, 16, 17, 18, 19, 20, 21, 22, 24, 28] G A G A := Fr_rf
  have hP0 : Pf nd A A := Pf_rf
  have b_ln : (0 : Int) ≤ ln ∧ ln ≤ 3000 := e_ln ▸ hW.1 9
  have b_le : (0 : Int) ≤ le ∧ le ≤ 3000 := e_le ▸ hW.2 4 _
  have b_at0 : (0 : Int) ≤ at0 ∧ at0 ≤ 3002 := e_at0 ▸ hW.1 10
  have b_fk : (0 : Int) ≤ fk ∧ fk ≤ 6 := e_fk ▸ hW.1 16
  have b_op0 : (-2147483648 : Int) ≤ op0 ∧ op0 ≤ 2147483647 := e_op0 ▸ hW.1 15
  have b_nd : (0 : Int) ≤ nd ∧ nd ≤ 6999 := e_nd ▸ hW.1 31
  have z_tk0 := tz_f tk0
  have b_tk0 : (0 : Int) ≤ tk0 ∧ tk0 ≤ 5 := e_tk0 ▸ hW.1 11
  refine jx_ld (pc' := 1) (l' := [(0, .ref 66)]) (st' := [.ref 66]) rfl (jl_aloadn rfl) ?_
  refine jx_vr (pc' := 4) (as := []) (st := []) rfl rfl rfl rfl ⟨rfl, rfl, Nat.le_of_ble_eq_true rfl⟩ rfl rfl (c_bad (dd := d) (hd := by omega) (hW := hW)  (fk := fk) (e_fk := show G 16 = fk from (e_fk))    ) (fun o V' hq => ?_)
  obtain ⟨r1, rfl, rfl, b2, q3⟩ := hq
  refine .inr ⟨_, rfl, ?_⟩
  rcases q3 with ⟨rfl, a4⟩ | ⟨rfl, a5⟩
  · have _q : True := trivial
    refine jx_if_eq (pc' := 7) (tg := 9) rfl rfl rfl (by decide) (by decide) (fun h6 => ?_) (fun h6 => ?_)
    · have _q := h6
      exact absurd h6 (by omega)
    · have _q := h6
      refine jx_ar (pc' := 8) (st' := [.int (i32 (0))]) rfl rfl rfl rfl ?_
      refine jx_rt (v := some (.int (i32 (0)))) rfl rfl rfl rfl rfl rfl ?_
      have z7 := tz_f (tk0)
      exact ⟨_, _, _, at0, fk, op0, nd, tk0, rfl, rfl, hW, hF0, hP0, by omega, (e_at0), (e_fk), (e_op0), (e_nd), (e_tk0), by omega, by omega, by omega, by omega, by omega, by omega, by first | exact Or.inl (⟨by omega, by omega, by omega, by omega, by omega, by omega⟩)⟩
  · have _q : True := trivial
    refine jx_if_eq (pc' := 7) (tg := 9) rfl rfl rfl (by decide) (by decide) (fun h8 => ?_) (fun h8 => ?_)
    · have _q := h8
      refine jx_ld (pc' := 10) (l' := [(0, .ref 66)]) (st' := [.ref 66]) rfl (jl_aloadn rfl) ?_
      have z9 := tz_f (tk0)
      refine jr_get (pc' := 13) (i := 11) (v := .int (i32 (tk0))) rfl rfl (by decide) (rFv_eq (by decide) (show G 11 = tk0 from (e_tk0))) rfl ?_
      refine jx_ar (pc' := 14) (st' := [.int (i32 (3)), .int (i32 (tk0))]) rfl rfl rfl rfl ?_
      refine jx_icmp_eq (pc' := 17) (tg := 35) rfl rfl rfl (Int.le_trans (by decide : (-2147483648 : Int) ≤ 0) b_tk0.1) (Int.le_trans b_tk0.2 (by decide : (5 : Int) ≤ 2147483647)) (by decide) (by decide) (fun h10 => ?_) (fun h10 => ?_)
      · have _q := h10
        refine jx_ld (pc' := 36) (l' := [(0, .ref 66)]) (st' := [.ref 66]) rfl (jl_aloadn rfl) ?_
        have z11 := tz_f (tk0)
        refine jr_get (pc' := 39) (i := 11) (v := .int (i32 (tk0))) rfl rfl (by decide) (rFv_eq (by decide) (show G 11 = tk0 from (e_tk0))) rfl ?_
        refine jx_ar (pc' := 40) (st' := [.int (i32 (3)), .int (i32 (tk0))]) rfl rfl rfl rfl ?_
        refine jx_icmp_ne (pc' := 43) (tg := 50) rfl rfl rfl (Int.le_trans (by decide : (-2147483648 : Int) ≤ 0) b_tk0.1) (Int.le_trans b_tk0.2 (by decide : (5 : Int) ≤ 2147483647)) (by decide) (by decide) (fun h12 => ?_) (fun h12 => ?_)
        · have _q := h12
          refine jx_ld (pc' := 51) (l' := [(0, .ref 66)]) (st' := [.ref 66]) rfl (jl_aloadn rfl) ?_
          refine jx_ar (pc' := 53) (st' := [.int (i32 (14)), .ref 66]) rfl rfl rfl rfl ?_
          have b13 : (-2147483648 : Int) ≤ G 13 ∧ G 13 ≤ 2147483647 := hW.1 13
          refine jx_vr (pc' := 56) (as := [.int (i32 (14))]) (st := []) rfl rfl rfl rfl ⟨rfl, rfl, Nat.le_of_ble_eq_true rfl⟩ rfl rfl (c_isKey (dd := d) (hd := by omega) (hW := hW) (k := 14) (tk := tk0) (e_tk := show G 11 = tk0 from (e_tk0)) (tn := G 13) (e_tn := show G 13 = G 13 from rfl)  (h_k := ⟨(by decide), (by decide)⟩)  ) (fun o V' hq => ?_)
          obtain ⟨r14, rfl, rfl, b15, q16⟩ := hq
          refine .inr ⟨_, rfl, ?_⟩
          rcases q16 with ⟨rfl, a17, a18, a19⟩ | rfl
          · have _q : True := trivial
            refine jx_if_eq (pc' := 59) (tg := 63) rfl rfl rfl (by decide) (by decide) (fun h20 => ?_) (fun h20 => ?_)
            · have _q := h20
              exact absurd h20 (by omega)
            · have _q := h20
              refine jx_ar (pc' := 60) (st' := [.int (i32 (1))]) rfl rfl rfl rfl ?_
              refine jx_go (tg := 64) rfl rfl ?_
              refine jx_ld (pc' := 65) (l' := jSto1 [(0, .ref 66)] 1 (.int (i32 (1)))) (st' := []) rfl rfl ?_
              obtain ⟨L21, eL21⟩ : ∃ q, q = jSto1 [(0, .ref 66)] 1 (.int (i32 (1))) := ⟨_, rfl⟩
              rw [← eL21]
              have gL21_0 : jGet L21 0 = some (.ref 66) := eL21 ▸ jg_ne (by decide) (rfl : jGet [(0, .ref 66)] 0 = some (.ref 66)) rfl
              have gL21_1 : jGet L21 1 = some (.int (i32 (1))) := eL21 ▸ jg_eq
              refine jx_ld (pc' := 66) (l' := L21) (st' := [.ref 66]) rfl (jl_aloadn gL21_0) ?_
              refine jx_vr (pc' := 69) (as := []) (st := []) rfl rfl rfl rfl ⟨rfl, rfl, Nat.le_of_ble_eq_true rfl⟩ rfl rfl (c_next (dd := d) (hd := by omega) (hW := hW)  (ln := ln) (e_ln := show G 9 = ln from (e_ln)) (le := le) (e_le := show A 4 (ln).toNat = le from (e_le)) (at0 := at0) (e_at0 := show G 10 = at0 from (e_at0))    (p_0 := by omega)) (fun o V' hq => ?_)
              obtain ⟨G22, A23, at2_24, tk2_25, rfl, rfl, hW26, hF27, e28, e29, p30, p31, p32, -⟩ := hq
              have hF34 := Fr_tr hF0 hF27 (Fr_sub (by decide)) (Fr_sub (by decide))
              have hP35 := Pf_f hP0 hF27 (by decide)
              have bat2_24 : (0 : Int) ≤ at2_24 ∧ at2_24 ≤ 3002 := e28 ▸ hW26.1 10
              have ztk2_25 := tz_b tk2_25
              have btk2_25 : (0 : Int) ≤ tk2_25 ∧ tk2_25 ≤ 5 := e29 ▸ hW26.1 11
              refine .inl ⟨rfl, ?_⟩
              refine jx_ld (pc' := 70) (l' := L21) (st' := [.ref 66]) rfl (jl_aloadn gL21_0) ?_
              refine jx_ar (pc' := 71) (st' := [.int (i32 (1)), .ref 66]) rfl rfl rfl rfl ?_
              refine jx_ld (pc' := 72) (l' := L21) (st' := [.int (i32 (1)), .int (i32 (1)), .ref 66]) rfl (jl_iloadn gL21_1) ?_
              refine jx_ar (pc' := 73) (st' := [.int (i32 (0)), .int (i32 (1)), .int (i32 (1)), .ref 66]) rfl rfl rfl rfl ?_
              refine jx_ar (pc' := 74) (st' := [.int (i32 (0)), .int (i32 (0)), .int (i32 (1)), .int (i32 (1)), .ref 66]) rfl rfl rfl rfl ?_
              refine jx_ar (pc' := 75) (st' := [.int (i32 (0)), .int (i32 (0)), .int (i32 (0)), .int (i32 (1)), .int (i32 (1)), .ref 66]) rfl rfl rfl rfl ?_
              refine jx_vr (pc' := 78) (as := [.int (i32 (1)), .int (i32 (1)), .int (i32 (0)), .int (i32 (0)), .int (i32 (0))]) (st := []) rfl rfl rfl rfl ⟨rfl, rfl, Nat.le_of_ble_eq_true rfl⟩ rfl rfl (c_node (dd := d) (hd := by omega) (hW := hW26) (kind := 1) (a := 1) (b := 0) (c := 0) (e := 0) (nd := nd) (e_nd := show G22 31 = nd from ((hF27.1 31 rfl).trans (e_nd)))  (h_kind := ⟨(by decide), (by decide)⟩) (h_a := ⟨(by decide), (by decide)⟩) (h_b := ⟨(by decide), (by decide)⟩) (h_c := ⟨(by decide), (by decide)⟩) (h_e := ⟨(by decide), (by decide)⟩)  (p_0 := by omega) (p_1 := by omega)) (fun o V' hq => ?_)
              obtain ⟨G36, A37, nd2_38, rfl, rfl, hW39, hF40, hQ41, e42, p43, p44, -⟩ := hq
              have hF46 := Fr_tr hF34 hF40 (Fr_sub (by decide)) (Fr_sub (by decide))
              have hP47 := Pf_tr hP35 hQ41 (by omega)
              have bnd2_38 : (0 : Int) ≤ nd2_38 ∧ nd2_38 ≤ 6999 := e42 ▸ hW39.1 31
              refine .inr ⟨_, rfl, ?_⟩
              refine jx_rt (v := some (.int (i32 (nd)))) rfl rfl rfl rfl rfl rfl ?_
              have z48 := tz_f (tk2_25)
              exact ⟨_, _, _, at2_24, fk, op0, nd2_38, tk2_25, rfl, rfl, hW39, hF46, hP47, by omega, ((hF40.1 10 rfl).trans (e28)), ((hF40.1 16 rfl).trans ((hF27.1 16 rfl).trans (e_fk))), ((hF40.1 15 rfl).trans ((hF27.1 15 rfl).trans (e_op0))), (e42), ((hF40.1 11 rfl).trans (e29)), by omega, by omega, by omega, by omega, by omega, by omega, by first | exact Or.inr (Or.inr ((⟨by omega, by omega, by omega, (wE_num p44 (by omega) (by omega))⟩)))⟩
          · have _q : True := trivial
            refine jx_if_eq (pc' := 59) (tg := 63) rfl rfl rfl (by decide) (by decide) (fun h49 => ?_) (fun h49 => ?_)
            · have _q := h49
              refine jx_ar (pc' := 64) (st' := [.int (i32 (0))]) rfl rfl rfl rfl ?_
              refine jx_ld (pc' := 65) (l' := jSto1 [(0, .ref 66)] 1 (.int (i32 (0)))) (st' := []) rfl rfl ?_
              obtain ⟨L50, eL50⟩ : ∃ q, q = jSto1 [(0, .ref 66)] 1 (.int (i32 (0))) := ⟨_, rfl⟩
              rw [← eL50]
              have gL50_0 : jGet L50 0 = some (.ref 66) := eL50 ▸ jg_ne (by decide) (rfl : jGet [(0, .ref 66)] 0 = some (.ref 66)) rfl
              have gL50_1 : jGet L50 1 = some (.int (i32 (0))) := eL50 ▸ jg_eq
              refine jx_ld (pc' := 66) (l' := L50) (st' := [.ref 66]) rfl (jl_aloadn gL50_0) ?_
              refine jx_vr (pc' := 69) (as := []) (st := []) rfl rfl rfl rfl ⟨rfl, rfl, Nat.le_of_ble_eq_true rfl⟩ rfl rfl (c_next (dd := d) (hd := by omega) (hW := hW)  (ln := ln) (e_ln := show G 9 = ln from (e_ln)) (le := le) (e_le := show A 4 (ln).toNat = le from (e_le)) (at0 := at0) (e_at0 := show G 10 = at0 from (e_at0))    (p_0 := by omega)) (fun o V' hq => ?_)
              obtain ⟨G51, A52, at2_53, tk2_54, rfl, rfl, hW55, hF56, e57, e58, p59, p60, p61, -⟩ := hq
              have hF63 := Fr_tr hF0 hF56 (Fr_sub (by decide)) (Fr_sub (by decide))
              have hP64 := Pf_f hP0 hF56 (by decide)
              have bat2_53 : (0 : Int) ≤ at2_53 ∧ at2_53 ≤ 3002 := e57 ▸ hW55.1 10
              have ztk2_54 := tz_b tk2_54
              have btk2_54 : (0 : Int) ≤ tk2_54 ∧ tk2_54 ≤ 5 := e58 ▸ hW55.1 11
              refine .inl ⟨rfl, ?_⟩
              refine jx_ld (pc' := 70) (l' := L50) (st' := [.ref 66]) rfl (jl_aloadn gL50_0) ?_
              refine jx_ar (pc' := 71) (st' := [.int (i32 (1)), .ref 66]) rfl rfl rfl rfl ?_
              refine jx_ld (pc' := 72) (l' := L50) (st' := [.int (i32 (0)), .int (i32 (1)), .ref 66]) rfl (jl_iloadn gL50_1) ?_
              refine jx_ar (pc' := 73) (st' := [.int (i32 (0)), .int (i32 (0)), .int (i32 (1)), .ref 66]) rfl rfl rfl rfl ?_
              refine jx_ar (pc' := 74) (st' := [.int (i32 (0)), .int (i32 (0)), .int (i32 (0)), .int (i32 (1)), .ref 66]) rfl rfl rfl rfl ?_
              refine jx_ar (pc' := 75) (st' := [.int (i32 (0)), .int (i32 (0)), .int (i32 (0)), .int (i32 (0)), .int (i32 (1)), .ref 66]) rfl rfl rfl rfl ?_
              refine jx_vr (pc' := 78) (as := [.int (i32 (1)), .int (i32 (0)), .int (i32 (0)), .int (i32 (0)), .int (i32 (0))]) (st := []) rfl rfl rfl rfl ⟨rfl, rfl, Nat.le_of_ble_eq_true rfl⟩ rfl rfl (c_node (dd := d) (hd := by omega) (hW := hW55) (kind := 1) (a := 0) (b := 0) (c := 0) (e := 0) (nd := nd) (e_nd := show G51 31 = nd from ((hF56.1 31 rfl).trans (e_nd)))  (h_kind := ⟨(by decide), (by decide)⟩) (h_a := ⟨(by decide), (by decide)⟩) (h_b := ⟨(by decide), (by decide)⟩) (h_c := ⟨(by decide), (by decide)⟩) (h_e := ⟨(by decide), (by decide)⟩)  (p_0 := by omega) (p_1 := by omega)) (fun o V' hq => ?_)
              obtain ⟨G65, A66, nd2_67, rfl, rfl, hW68, hF69, hQ70, e71, p72, p73, -⟩ := hq
              have hF75 := Fr_tr hF63 hF69 (Fr_sub (by decide)) (Fr_sub (by decide))
              have hP76 := Pf_tr hP64 hQ70 (by omega)
              have bnd2_67 : (0 : Int) ≤ nd2_67 ∧ nd2_67 ≤ 6999 := e71 ▸ hW68.1 31
              refine .inr ⟨_, rfl, ?_⟩
              refine jx_rt (v := some (.int (i32 (nd)))) rfl rfl rfl rfl rfl rfl ?_
              have z77 := tz_f (tk2_54)
              exact ⟨_, _, _, at2_53, fk, op0, nd2_67, tk2_54, rfl, rfl, hW68, hF75, hP76, by omega, ((hF69.1 10 rfl).trans (e57)), ((hF69.1 16 rfl).trans ((hF56.1 16 rfl).trans (e_fk))), ((hF69.1 15 rfl).trans ((hF56.1 15 rfl).trans (e_op0))), (e71), ((hF69.1 11 rfl).trans (e58)), by omega, by omega, by omega, by omega, by omega, by omega, by first | exact Or.inr (Or.inr ((⟨by omega, by omega, by omega, (wE_num p73 (by omega) (by omega))⟩)))⟩
            · have _q := h49
              exact absurd h49 (by omega)
        · have _q := h12
          refine jx_ld (pc' := 44) (l' := [(0, .ref 66)]) (st' := [.ref 66]) rfl (jl_aloadn rfl) ?_
          have b78 : (-2147483648 : Int) ≤ G 13 ∧ G 13 ≤ 2147483647 := hW.1 13
          refine jr_get (pc' := 47) (i := 13) (v := .int (i32 (G 13))) rfl rfl (by decide) rfl rfl ?_
          refine jx_go (tg := 64) rfl rfl ?_
          refine jx_ld (pc' := 65) (l' := jSto1 [(0, .ref 66)] 1 (.int (i32 (G 13)))) (st' := []) rfl rfl ?_
          obtain ⟨L79, eL79⟩ : ∃ q, q = jSto1 [(0, .ref 66)] 1 (.int (i32 (G 13))) := ⟨_, rfl⟩
          rw [← eL79]
          have gL79_0 : jGet L79 0 = some (.ref 66) := eL79 ▸ jg_ne (by decide) (rfl : jGet [(0, .ref 66)] 0 = some (.ref 66)) rfl
          have gL79_1 : jGet L79 1 = some (.int (i32 (G 13))) := eL79 ▸ jg_eq
          refine jx_ld (pc' := 66) (l' := L79) (st' := [.ref 66]) rfl (jl_aloadn gL79_0) ?_
          refine jx_vr (pc' := 69) (as := []) (st := []) rfl rfl rfl rfl ⟨rfl, rfl, Nat.le_of_ble_eq_true rfl⟩ rfl rfl (c_next (dd := d) (hd := by omega) (hW := hW)  (ln := ln) (e_ln := show G 9 = ln from (e_ln)) (le := le) (e_le := show A 4 (ln).toNat = le from (e_le)) (at0 := at0) (e_at0 := show G 10 = at0 from (e_at0))    (p_0 := by omega)) (fun o V' hq => ?_)
          obtain ⟨G80, A81, at2_82, tk2_83, rfl, rfl, hW84, hF85, e86, e87, p88, p89, p90, -⟩ := hq
          have hF92 := Fr_tr hF0 hF85 (Fr_sub (by decide)) (Fr_sub (by decide))
          have hP93 := Pf_f hP0 hF85 (by decide)
          have bat2_82 : (0 : Int) ≤ at2_82 ∧ at2_82 ≤ 3002 := e86 ▸ hW84.1 10
          have ztk2_83 := tz_b tk2_83
          have btk2_83 : (0 : Int) ≤ tk2_83 ∧ tk2_83 ≤ 5 := e87 ▸ hW84.1 11
          refine .inl ⟨rfl, ?_⟩
          refine jx_ld (pc' := 70) (l' := L79) (st' := [.ref 66]) rfl (jl_aloadn gL79_0) ?_
          refine jx_ar (pc' := 71) (st' := [.int (i32 (1)), .ref 66]) rfl rfl rfl rfl ?_
          refine jx_ld (pc' := 72) (l' := L79) (st' := [.int (i32 (G 13)), .int (i32 (1)), .ref 66]) rfl (jl_iloadn gL79_1) ?_
          refine jx_ar (pc' := 73) (st' := [.int (i32 (0)), .int (i32 (G 13)), .int (i32 (1)), .ref 66]) rfl rfl rfl rfl ?_
          refine jx_ar (pc' := 74) (st' := [.int (i32 (0)), .int (i32 (0)), .int (i32 (G 13)), .int (i32 (1)), .ref 66]) rfl rfl rfl rfl ?_
          refine jx_ar (pc' := 75) (st' := [.int (i32 (0)), .int (i32 (0)), .int (i32 (0)), .int (i32 (G 13)), .int (i32 (1)), .ref 66]) rfl rfl rfl rfl ?_
          refine jx_vr (pc' := 78) (as := [.int (i32 (1)), .int (i32 (G 13)), .int (i32 (0)), .int (i32 (0)), .int (i32 (0))]) (st := []) rfl rfl rfl rfl ⟨rfl, rfl, Nat.le_of_ble_eq_true rfl⟩ rfl rfl (c_node (dd := d) (hd := by omega) (hW := hW84) (kind := 1) (a := G 13) (b := 0) (c := 0) (e := 0) (nd := nd) (e_nd := show G80 31 = nd from ((hF85.1 31 rfl).trans (e_nd)))  (h_kind := ⟨(by decide), (by decide)⟩) (h_a := ⟨(Int.le_trans (by decide : (-2147483648 : Int) ≤ -2147483648) b78.1), (Int.le_trans b78.2 (by decide : (2147483647 : Int) ≤ 2147483647))⟩) (h_b := ⟨(by decide), (by decide)⟩) (h_c := ⟨(by decide), (by decide)⟩) (h_e := ⟨(by decide), (by decide)⟩)  (p_0 := by omega) (p_1 := by omega)) (fun o V' hq => ?_)
          obtain ⟨G94, A95, nd2_96, rfl, rfl, hW97, hF98, hQ99, e100, p101, p102, -⟩ := hq
          have hF104 := Fr_tr hF92 hF98 (Fr_sub (by decide)) (Fr_sub (by decide))
          have hP105 := Pf_tr hP93 hQ99 (by omega)
          have bnd2_96 : (0 : Int) ≤ nd2_96 ∧ nd2_96 ≤ 6999 := e100 ▸ hW97.1 31
          refine .inr ⟨_, rfl, ?_⟩
          refine jx_rt (v := some (.int (i32 (nd)))) rfl rfl rfl rfl rfl rfl ?_
          have z106 := tz_f (tk2_83)
          exact ⟨_, _, _, at2_82, fk, op0, nd2_96, tk2_83, rfl, rfl, hW97, hF104, hP105, by omega, ((hF98.1 10 rfl).trans (e86)), ((hF98.1 16 rfl).trans ((hF85.1 16 rfl).trans (e_fk))), ((hF98.1 15 rfl).trans ((hF85.1 15 rfl).trans (e_op0))), (e100), ((hF98.1 11 rfl).trans (e87)), by omega, by omega, by omega, by omega, by omega, by omega, by first | exact Or.inr (Or.inr ((⟨by omega, by omega, by omega, (wE_num p102 (by omega) (by omega))⟩)))⟩
      · have _q := h10
        refine jx_ld (pc' := 18) (l' := [(0, .ref 66)]) (st' := [.ref 66]) rfl (jl_aloadn rfl) ?_
        refine jx_ar (pc' := 20) (st' := [.int (i32 (14)), .ref 66]) rfl rfl rfl rfl ?_
        have b107 : (-2147483648 : Int) ≤ G 13 ∧ G 13 ≤ 2147483647 := hW.1 13
        refine jx_vr (pc' := 23) (as := [.int (i32 (14))]) (st := []) rfl rfl rfl rfl ⟨rfl, rfl, Nat.le_of_ble_eq_true rfl⟩ rfl rfl (c_isKey (dd := d) (hd := by omega) (hW := hW) (k := 14) (tk := tk0) (e_tk := show G 11 = tk0 from (e_tk0)) (tn := G 13) (e_tn := show G 13 = G 13 from rfl)  (h_k := ⟨(by decide), (by decide)⟩)  ) (fun o V' hq => ?_)
        obtain ⟨r108, rfl, rfl, b109, q110⟩ := hq
        refine .inr ⟨_, rfl, ?_⟩
        rcases q110 with ⟨rfl, a111, a112, a113⟩ | rfl
        · have _q : True := trivial
          refine jx_if_ne (pc' := 26) (tg := 35) rfl rfl rfl (by decide) (by decide) (fun h114 => ?_) (fun h114 => ?_)
          · have _q := h114
            refine jx_ld (pc' := 36) (l' := [(0, .ref 66)]) (st' := [.ref 66]) rfl (jl_aloadn rfl) ?_
            have z115 := tz_f (tk0)
            refine jr_get (pc' := 39) (i := 11) (v := .int (i32 (tk0))) rfl rfl (by decide) (rFv_eq (by decide) (show G 11 = tk0 from (e_tk0))) rfl ?_
            refine jx_ar (pc' := 40) (st' := [.int (i32 (3)), .int (i32 (tk0))]) rfl rfl rfl rfl ?_
            refine jx_icmp_ne (pc' := 43) (tg := 50) rfl rfl rfl (Int.le_trans (by decide : (-2147483648 : Int) ≤ 0) b_tk0.1) (Int.le_trans b_tk0.2 (by decide : (5 : Int) ≤ 2147483647)) (by decide) (by decide) (fun h116 => ?_) (fun h116 => ?_)
            · have _q := h116
              refine jx_ld (pc' := 51) (l' := [(0, .ref 66)]) (st' := [.ref 66]) rfl (jl_aloadn rfl) ?_
              refine jx_ar (pc' := 53) (st' := [.int (i32 (14)), .ref 66]) rfl rfl rfl rfl ?_
              refine jx_vr (pc' := 56) (as := [.int (i32 (14))]) (st := []) rfl rfl rfl rfl ⟨rfl, rfl, Nat.le_of_ble_eq_true rfl⟩ rfl rfl (c_isKey (dd := d) (hd := by omega) (hW := hW) (k := 14) (tk := tk0) (e_tk := show G 11 = tk0 from (e_tk0)) (tn := G 13) (e_tn := show G 13 = G 13 from rfl)  (h_k := ⟨(by decide), (by decide)⟩)  ) (fun o V' hq => ?_)
              obtain ⟨r117, rfl, rfl, b118, q119⟩ := hq
              refine .inr ⟨_, rfl, ?_⟩
              rcases q119 with ⟨rfl, a120, a121, a122⟩ | rfl
              · have _q : True := trivial
                refine jx_if_eq (pc' := 59) (tg := 63) rfl rfl rfl (by decide) (by decide) (fun h123 => ?_) (fun h123 => ?_)
                · have _q := h123
                  exact absurd h123 (by omega)
                · have _q := h123
                  refine jx_ar (pc' := 60) (st' := [.int (i32 (1))]) rfl rfl rfl rfl ?_
                  refine jx_go (tg := 64) rfl rfl ?_
                  refine jx_ld (pc' := 65) (l' := jSto1 [(0, .ref 66)] 1 (.int (i32 (1)))) (st' := []) rfl rfl ?_
                  obtain ⟨L124, eL124⟩ : ∃ q, q = jSto1 [(0, .ref 66)] 1 (.int (i32 (1))) := ⟨_, rfl⟩
                  rw [← eL124]
                  have gL124_0 : jGet L124 0 = some (.ref 66) := eL124 ▸ jg_ne (by decide) (rfl : jGet [(0, .ref 66)] 0 = some (.ref 66)) rfl
                  have gL124_1 : jGet L124 1 = some (.int (i32 (1))) := eL124 ▸ jg_eq
                  refine jx_ld (pc' := 66) (l' := L124) (st' := [.ref 66]) rfl (jl_aloadn gL124_0) ?_
                  refine jx_vr (pc' := 69) (as := []) (st := []) rfl rfl rfl rfl ⟨rfl, rfl, Nat.le_of_ble_eq_true rfl⟩ rfl rfl (c_next (dd := d) (hd := by omega) (hW := hW)  (ln := ln) (e_ln := show G 9 = ln from (e_ln)) (le := le) (e_le := show A 4 (ln).toNat = le from (e_le)) (at0 := at0) (e_at0 := show G 10 = at0 from (e_at0))    (p_0 := by omega)) (fun o V' hq => ?_)
                  obtain ⟨G125, A126, at2_127, tk2_128, rfl, rfl, hW129, hF130, e131, e132, p133, p134, p135, -⟩ := hq
                  have hF137 := Fr_tr hF0 hF130 (Fr_sub (by decide)) (Fr_sub (by decide))
                  have hP138 := Pf_f hP0 hF130 (by decide)
                  have bat2_127 : (0 : Int) ≤ at2_127 ∧ at2_127 ≤ 3002 := e131 ▸ hW129.1 10
                  have ztk2_128 := tz_b tk2_128
                  have btk2_128 : (0 : Int) ≤ tk2_128 ∧ tk2_128 ≤ 5 := e132 ▸ hW129.1 11
                  refine .inl ⟨rfl, ?_⟩
                  refine jx_ld (pc' := 70) (l' := L124) (st' := [.ref 66]) rfl (jl_aloadn gL124_0) ?_
                  refine jx_ar (pc' := 71) (st' := [.int (i32 (1)), .ref 66]) rfl rfl rfl rfl ?_
                  refine jx_ld (pc' := 72) (l' := L124) (st' := [.int (i32 (1)), .int (i32 (1)), .ref 66]) rfl (jl_iloadn gL124_1) ?_
                  refine jx_ar (pc' := 73) (st' := [.int (i32 (0)), .int (i32 (1)), .int (i32 (1)), .ref 66]) rfl rfl rfl rfl ?_
                  refine jx_ar (pc' := 74) (st' := [.int (i32 (0)), .int (i32 (0)), .int (i32 (1)), .int (i32 (1)), .ref 66]) rfl rfl rfl rfl ?_
                  refine jx_ar (pc' := 75) (st' := [.int (i32 (0)), .int (i32 (0)), .int (i32 (0)), .int (i32 (1)), .int (i32 (1)), .ref 66]) rfl rfl rfl rfl ?_
                  refine jx_vr (pc' := 78) (as := [.int (i32 (1)), .int (i32 (1)), .int (i32 (0)), .int (i32 (0)), .int (i32 (0))]) (st := []) rfl rfl rfl rfl ⟨rfl, rfl, Nat.le_of_ble_eq_true rfl⟩ rfl rfl (c_node (dd := d) (hd := by omega) (hW := hW129) (kind := 1) (a := 1) (b := 0) (c := 0) (e := 0) (nd := nd) (e_nd := show G125 31 = nd from ((hF130.1 31 rfl).trans (e_nd)))  (h_kind := ⟨(by decide), (by decide)⟩) (h_a := ⟨(by decide), (by decide)⟩) (h_b := ⟨(by decide), (by decide)⟩) (h_c := ⟨(by decide), (by decide)⟩) (h_e := ⟨(by decide), (by decide)⟩)  (p_0 := by omega) (p_1 := by omega)) (fun o V' hq => ?_)
                  obtain ⟨G139, A140, nd2_141, rfl, rfl, hW142, hF143, hQ144, e145, p146, p147, -⟩ := hq
                  have hF149 := Fr_tr hF137 hF143 (Fr_sub (by decide)) (Fr_sub (by decide))
                  have hP150 := Pf_tr hP138 hQ144 (by omega)
                  have bnd2_141 : (0 : Int) ≤ nd2_141 ∧ nd2_141 ≤ 6999 := e145 ▸ hW142.1 31
                  refine .inr ⟨_, rfl, ?_⟩
                  refine jx_rt (v := some (.int (i32 (nd)))) rfl rfl rfl rfl rfl rfl ?_
                  have z151 := tz_f (tk2_128)
                  exact ⟨_, _, _, at2_127, fk, op0, nd2_141, tk2_128, rfl, rfl, hW142, hF149, hP150, by omega, ((hF143.1 10 rfl).trans (e131)), ((hF143.1 16 rfl).trans ((hF130.1 16 rfl).trans (e_fk))), ((hF143.1 15 rfl).trans ((hF130.1 15 rfl).trans (e_op0))), (e145), ((hF143.1 11 rfl).trans (e132)), by omega, by omega, by omega, by omega, by omega, by omega, by first | exact Or.inr (Or.inr ((⟨by omega, by omega, by omega, (wE_num p147 (by omega) (by omega))⟩)))⟩
              · have _q : True := trivial
                refine jx_if_eq (pc' := 59) (tg := 63) rfl rfl rfl (by decide) (by decide) (fun h152 => ?_) (fun h152 => ?_)
                · have _q := h152
                  refine jx_ar (pc' := 64) (st' := [.int (i32 (0))]) rfl rfl rfl rfl ?_
                  refine jx_ld (pc' := 65) (l' := jSto1 [(0, .ref 66)] 1 (.int (i32 (0)))) (st' := []) rfl rfl ?_
                  obtain ⟨L153, eL153⟩ : ∃ q, q = jSto1 [(0, .ref 66)] 1 (.int (i32 (0))) := ⟨_, rfl⟩
                  rw [← eL153]
                  have gL153_0 : jGet L153 0 = some (.ref 66) := eL153 ▸ jg_ne (by decide) (rfl : jGet [(0, .ref 66)] 0 = some (.ref 66)) rfl
                  have gL153_1 : jGet L153 1 = some (.int (i32 (0))) := eL153 ▸ jg_eq
                  refine jx_ld (pc' := 66) (l' := L153) (st' := [.ref 66]) rfl (jl_aloadn gL153_0) ?_
                  refine jx_vr (pc' := 69) (as := []) (st := []) rfl rfl rfl rfl ⟨rfl, rfl, Nat.le_of_ble_eq_true rfl⟩ rfl rfl (c_next (dd := d) (hd := by omega) (hW := hW)  (ln := ln) (e_ln := show G 9 = ln from (e_ln)) (le := le) (e_le := show A 4 (ln).toNat = le from (e_le)) (at0 := at0) (e_at0 := show G 10 = at0 from (e_at0))    (p_0 := by omega)) (fun o V' hq => ?_)
                  obtain ⟨G154, A155, at2_156, tk2_157, rfl, rfl, hW158, hF159, e160, e161, p162, p163, p164, -⟩ := hq
                  have hF166 := Fr_tr hF0 hF159 (Fr_sub (by decide)) (Fr_sub (by decide))
                  have hP167 := Pf_f hP0 hF159 (by decide)
                  have bat2_156 : (0 : Int) ≤ at2_156 ∧ at2_156 ≤ 3002 := e160 ▸ hW158.1 10
                  have ztk2_157 := tz_b tk2_157
                  have btk2_157 : (0 : Int) ≤ tk2_157 ∧ tk2_157 ≤ 5 := e161 ▸ hW158.1 11
                  refine .inl ⟨rfl, ?_⟩
                  refine jx_ld (pc' := 70) (l' := L153) (st' := [.ref 66]) rfl (jl_aloadn gL153_0) ?_
                  refine jx_ar (pc' := 71) (st' := [.int (i32 (1)), .ref 66]) rfl rfl rfl rfl ?_
                  refine jx_ld (pc' := 72) (l' := L153) (st' := [.int (i32 (0)), .int (i32 (1)), .ref 66]) rfl (jl_iloadn gL153_1) ?_
                  refine jx_ar (pc' := 73) (st' := [.int (i32 (0)), .int (i32 (0)), .int (i32 (1)), .ref 66]) rfl rfl rfl rfl ?_
                  refine jx_ar (pc' := 74) (st' := [.int (i32 (0)), .int (i32 (0)), .int (i32 (0)), .int (i32 (1)), .ref 66]) rfl rfl rfl rfl ?_
                  refine jx_ar (pc' := 75) (st' := [.int (i32 (0)), .int (i32 (0)), .int (i32 (0)), .int (i32 (0)), .int (i32 (1)), .ref 66]) rfl rfl rfl rfl ?_
                  refine jx_vr (pc' := 78) (as := [.int (i32 (1)), .int (i32 (0)), .int (i32 (0)), .int (i32 (0)), .int (i32 (0))]) (st := []) rfl rfl rfl rfl ⟨rfl, rfl, Nat.le_of_ble_eq_true rfl⟩ rfl rfl (c_node (dd := d) (hd := by omega) (hW := hW158) (kind := 1) (a := 0) (b := 0) (c := 0) (e := 0) (nd := nd) (e_nd := show G154 31 = nd from ((hF159.1 31 rfl).trans (e_nd)))  (h_kind := ⟨(by decide), (by decide)⟩) (h_a := ⟨(by decide), (by decide)⟩) (h_b := ⟨(by decide), (by decide)⟩) (h_c := ⟨(by decide), (by decide)⟩) (h_e := ⟨(by decide), (by decide)⟩)  (p_0 := by omega) (p_1 := by omega)) (fun o V' hq => ?_)
                  obtain ⟨G168, A169, nd2_170, rfl, rfl, hW171, hF172, hQ173, e174, p175, p176, -⟩ := hq
                  have hF178 := Fr_tr hF166 hF172 (Fr_sub (by decide)) (Fr_sub (by decide))
                  have hP179 := Pf_tr hP167 hQ173 (by omega)
                  have bnd2_170 : (0 : Int) ≤ nd2_170 ∧ nd2_170 ≤ 6999 := e174 ▸ hW171.1 31
                  refine .inr ⟨_, rfl, ?_⟩
                  refine jx_rt (v := some (.int (i32 (nd)))) rfl rfl rfl rfl rfl rfl ?_
                  have z180 := tz_f (tk2_157)
                  exact ⟨_, _, _, at2_156, fk, op0, nd2_170, tk2_157, rfl, rfl, hW171, hF178, hP179, by omega, ((hF172.1 10 rfl).trans (e160)), ((hF172.1 16 rfl).trans ((hF159.1 16 rfl).trans (e_fk))), ((hF172.1 15 rfl).trans ((hF159.1 15 rfl).trans (e_op0))), (e174), ((hF172.1 11 rfl).trans (e161)), by omega, by omega, by omega, by omega, by omega, by omega, by first | exact Or.inr (Or.inr ((⟨by omega, by omega, by omega, (wE_num p176 (by omega) (by omega))⟩)))⟩
                · have _q := h152
                  exact absurd h152 (by omega)
            · have _q := h116
              refine jx_ld (pc' := 44) (l' := [(0, .ref 66)]) (st' := [.ref 66]) rfl (jl_aloadn rfl) ?_
              refine jr_get (pc' := 47) (i := 13) (v := .int (i32 (G 13))) rfl rfl (by decide) rfl rfl ?_
              refine jx_go (tg := 64) rfl rfl ?_
              refine jx_ld (pc' := 65) (l' := jSto1 [(0, .ref 66)] 1 (.int (i32 (G 13)))) (st' := []) rfl rfl ?_
              obtain ⟨L181, eL181⟩ : ∃ q, q = jSto1 [(0, .ref 66)] 1 (.int (i32 (G 13))) := ⟨_, rfl⟩
              rw [← eL181]
              have gL181_0 : jGet L181 0 = some (.ref 66) := eL181 ▸ jg_ne (by decide) (rfl : jGet [(0, .ref 66)] 0 = some (.ref 66)) rfl
              have gL181_1 : jGet L181 1 = some (.int (i32 (G 13))) := eL181 ▸ jg_eq
              refine jx_ld (pc' := 66) (l' := L181) (st' := [.ref 66]) rfl (jl_aloadn gL181_0) ?_
              refine jx_vr (pc' := 69) (as := []) (st := []) rfl rfl rfl rfl ⟨rfl, rfl, Nat.le_of_ble_eq_true rfl⟩ rfl rfl (c_next (dd := d) (hd := by omega) (hW := hW)  (ln := ln) (e_ln := show G 9 = ln from (e_ln)) (le := le) (e_le := show A 4 (ln).toNat = le from (e_le)) (at0 := at0) (e_at0 := show G 10 = at0 from (e_at0))    (p_0 := by omega)) (fun o V' hq => ?_)
              obtain ⟨G182, A183, at2_184, tk2_185, rfl, rfl, hW186, hF187, e188, e189, p190, p191, p192, -⟩ := hq
              have hF194 := Fr_tr hF0 hF187 (Fr_sub (by decide)) (Fr_sub (by decide))
              have hP195 := Pf_f hP0 hF187 (by decide)
              have bat2_184 : (0 : Int) ≤ at2_184 ∧ at2_184 ≤ 3002 := e188 ▸ hW186.1 10
              have ztk2_185 := tz_b tk2_185
              have btk2_185 : (0 : Int) ≤ tk2_185 ∧ tk2_185 ≤ 5 := e189 ▸ hW186.1 11
              refine .inl ⟨rfl, ?_⟩
              refine jx_ld (pc' := 70) (l' := L181) (st' := [.ref 66]) rfl (jl_aloadn gL181_0) ?_
              refine jx_ar (pc' := 71) (st' := [.int (i32 (1)), .ref 66]) rfl rfl rfl rfl ?_
              refine jx_ld (pc' := 72) (l' := L181) (st' := [.int (i32 (G 13)), .int (i32 (1)), .ref 66]) rfl (jl_iloadn gL181_1) ?_
              refine jx_ar (pc' := 73) (st' := [.int (i32 (0)), .int (i32 (G 13)), .int (i32 (1)), .ref 66]) rfl rfl rfl rfl ?_
              refine jx_ar (pc' := 74) (st' := [.int (i32 (0)), .int (i32 (0)), .int (i32 (G 13)), .int (i32 (1)), .ref 66]) rfl rfl rfl rfl ?_
              refine jx_ar (pc' := 75) (st' := [.int (i32 (0)), .int (i32 (0)), .int (i32 (0)), .int (i32 (G 13)), .int (i32 (1)), .ref 66]) rfl rfl rfl rfl ?_
              refine jx_vr (pc' := 78) (as := [.int (i32 (1)), .int (i32 (G 13)), .int (i32 (0)), .int (i32 (0)), .int (i32 (0))]) (st := []) rfl rfl rfl rfl ⟨rfl, rfl, Nat.le_of_ble_eq_true rfl⟩ rfl rfl (c_node (dd := d) (hd := by omega) (hW := hW186) (kind := 1) (a := G 13) (b := 0) (c := 0) (e := 0) (nd := nd) (e_nd := show G182 31 = nd from ((hF187.1 31 rfl).trans (e_nd)))  (h_kind := ⟨(by decide), (by decide)⟩) (h_a := ⟨(Int.le_trans (by decide : (-2147483648 : Int) ≤ -2147483648) b107.1), (Int.le_trans b107.2 (by decide : (2147483647 : Int) ≤ 2147483647))⟩) (h_b := ⟨(by decide), (by decide)⟩) (h_c := ⟨(by decide), (by decide)⟩) (h_e := ⟨(by decide), (by decide)⟩)  (p_0 := by omega) (p_1 := by omega)) (fun o V' hq => ?_)
              obtain ⟨G196, A197, nd2_198, rfl, rfl, hW199, hF200, hQ201, e202, p203, p204, -⟩ := hq
              have hF206 := Fr_tr hF194 hF200 (Fr_sub (by decide)) (Fr_sub (by decide))
              have hP207 := Pf_tr hP195 hQ201 (by omega)
              have bnd2_198 : (0 : Int) ≤ nd2_198 ∧ nd2_198 ≤ 6999 := e202 ▸ hW199.1 31
              refine .inr ⟨_, rfl, ?_⟩
              refine jx_rt (v := some (.int (i32 (nd)))) rfl rfl rfl rfl rfl rfl ?_
              have z208 := tz_f (tk2_185)
              exact ⟨_, _, _, at2_184, fk, op0, nd2_198, tk2_185, rfl, rfl, hW199, hF206, hP207, by omega, ((hF200.1 10 rfl).trans (e188)), ((hF200.1 16 rfl).trans ((hF187.1 16 rfl).trans (e_fk))), ((hF200.1 15 rfl).trans ((hF187.1 15 rfl).trans (e_op0))), (e202), ((hF200.1 11 rfl).trans (e189)), by omega, by omega, by omega, by omega, by omega, by omega, by first | exact Or.inr (Or.inr ((⟨by omega, by omega, by omega, (wE_num p204 (by omega) (by omega))⟩)))⟩
          · have _q := h114
            exact absurd h114 (by omega)
        · have _q : True := trivial
          refine jx_if_ne (pc' := 26) (tg := 35) rfl rfl rfl (by decide) (by decide) (fun h209 => ?_) (fun h209 => ?_)
          · have _q := h209
            exact absurd h209 (by omega)
          · have _q := h209
            refine jx_ld (pc' := 27) (l' := [(0, .ref 66)]) (st' := [.ref 66]) rfl (jl_aloadn rfl) ?_
            refine jx_ar (pc' := 29) (st' := [.int (i32 (15)), .ref 66]) rfl rfl rfl rfl ?_
            refine jx_vr (pc' := 32) (as := [.int (i32 (15))]) (st := []) rfl rfl rfl rfl ⟨rfl, rfl, Nat.le_of_ble_eq_true rfl⟩ rfl rfl (c_isKey (dd := d) (hd := by omega) (hW := hW) (k := 15) (tk := tk0) (e_tk := show G 11 = tk0 from (e_tk0)) (tn := G 13) (e_tn := show G 13 = G 13 from rfl)  (h_k := ⟨(by decide), (by decide)⟩)  ) (fun o V' hq => ?_)
            obtain ⟨r210, rfl, rfl, b211, q212⟩ := hq
            refine .inr ⟨_, rfl, ?_⟩
            rcases q212 with ⟨rfl, a213, a214, a215⟩ | rfl
            · have _q : True := trivial
              refine jx_if_eq (pc' := 35) (tg := 79) rfl rfl rfl (by decide) (by decide) (fun h216 => ?_) (fun h216 => ?_)
              · have _q := h216
                exact absurd h216 (by omega)
              · have _q := h216
                refine jx_ld (pc' := 36) (l' := [(0, .ref 66)]) (st' := [.ref 66]) rfl (jl_aloadn rfl) ?_
                have z217 := tz_f (tk0)
                refine jr_get (pc' := 39) (i := 11) (v := .int (i32 (tk0))) rfl rfl (by decide) (rFv_eq (by decide) (show G 11 = tk0 from (e_tk0))) rfl ?_
                refine jx_ar (pc' := 40) (st' := [.int (i32 (3)), .int (i32 (tk0))]) rfl rfl rfl rfl ?_
                refine jx_icmp_ne (pc' := 43) (tg := 50) rfl rfl rfl (Int.le_trans (by decide : (-2147483648 : Int) ≤ 0) b_tk0.1) (Int.le_trans b_tk0.2 (by decide : (5 : Int) ≤ 2147483647)) (by decide) (by decide) (fun h218 => ?_) (fun h218 => ?_)
                · have _q := h218
                  refine jx_ld (pc' := 51) (l' := [(0, .ref 66)]) (st' := [.ref 66]) rfl (jl_aloadn rfl) ?_
                  refine jx_ar (pc' := 53) (st' := [.int (i32 (14)), .ref 66]) rfl rfl rfl rfl ?_
                  refine jx_vr (pc' := 56) (as := [.int (i32 (14))]) (st := []) rfl rfl rfl rfl ⟨rfl, rfl, Nat.le_of_ble_eq_true rfl⟩ rfl rfl (c_isKey (dd := d) (hd := by omega) (hW := hW) (k := 14) (tk := tk0) (e_tk := show G 11 = tk0 from (e_tk0)) (tn := G 13) (e_tn := show G 13 = G 13 from rfl)  (h_k := ⟨(by decide), (by decide)⟩)  ) (fun o V' hq => ?_)
                  obtain ⟨r219, rfl, rfl, b220, q221⟩ := hq
                  refine .inr ⟨_, rfl, ?_⟩
                  rcases q221 with ⟨rfl, a222, a223, a224⟩ | rfl
                  · have _q : True := trivial
                    refine jx_if_eq (pc' := 59) (tg := 63) rfl rfl rfl (by decide) (by decide) (fun h225 => ?_) (fun h225 => ?_)
                    · have _q := h225
                      exact absurd h225 (by omega)
                    · have _q := h225
                      refine jx_ar (pc' := 60) (st' := [.int (i32 (1))]) rfl rfl rfl rfl ?_
                      refine jx_go (tg := 64) rfl rfl ?_
                      refine jx_ld (pc' := 65) (l' := jSto1 [(0, .ref 66)] 1 (.int (i32 (1)))) (st' := []) rfl rfl ?_
                      obtain ⟨L226, eL226⟩ : ∃ q, q = jSto1 [(0, .ref 66)] 1 (.int (i32 (1))) := ⟨_, rfl⟩
                      rw [← eL226]
                      have gL226_0 : jGet L226 0 = some (.ref 66) := eL226 ▸ jg_ne (by decide) (rfl : jGet [(0, .ref 66)] 0 = some (.ref 66)) rfl
                      have gL226_1 : jGet L226 1 = some (.int (i32 (1))) := eL226 ▸ jg_eq
                      refine jx_ld (pc' := 66) (l' := L226) (st' := [.ref 66]) rfl (jl_aloadn gL226_0) ?_
                      refine jx_vr (pc' := 69) (as := []) (st := []) rfl rfl rfl rfl ⟨rfl, rfl, Nat.le_of_ble_eq_true rfl⟩ rfl rfl (c_next (dd := d) (hd := by omega) (hW := hW)  (ln := ln) (e_ln := show G 9 = ln from (e_ln)) (le := le) (e_le := show A 4 (ln).toNat = le from (e_le)) (at0 := at0) (e_at0 := show G 10 = at0 from (e_at0))    (p_0 := by omega)) (fun o V' hq => ?_)
                      obtain ⟨G227, A228, at2_229, tk2_230, rfl, rfl, hW231, hF232, e233, e234, p235, p236, p237, -⟩ := hq
                      have hF239 := Fr_tr hF0 hF232 (Fr_sub (by decide)) (Fr_sub (by decide))
                      have hP240 := Pf_f hP0 hF232 (by decide)
                      have bat2_229 : (0 : Int) ≤ at2_229 ∧ at2_229 ≤ 3002 := e233 ▸ hW231.1 10
                      have ztk2_230 := tz_b tk2_230
                      have btk2_230 : (0 : Int) ≤ tk2_230 ∧ tk2_230 ≤ 5 := e234 ▸ hW231.1 11
                      refine .inl ⟨rfl, ?_⟩
                      refine jx_ld (pc' := 70) (l' := L226) (st' := [.ref 66]) rfl (jl_aloadn gL226_0) ?_
                      refine jx_ar (pc' := 71) (st' := [.int (i32 (1)), .ref 66]) rfl rfl rfl rfl ?_
                      refine jx_ld (pc' := 72) (l' := L226) (st' := [.int (i32 (1)), .int (i32 (1)), .ref 66]) rfl (jl_iloadn gL226_1) ?_
                      refine jx_ar (pc' := 73) (st' := [.int (i32 (0)), .int (i32 (1)), .int (i32 (1)), .ref 66]) rfl rfl rfl rfl ?_
                      refine jx_ar (pc' := 74) (st' := [.int (i32 (0)), .int (i32 (0)), .int (i32 (1)), .int (i32 (1)), .ref 66]) rfl rfl rfl rfl ?_
                      refine jx_ar (pc' := 75) (st' := [.int (i32 (0)), .int (i32 (0)), .int (i32 (0)), .int (i32 (1)), .int (i32 (1)), .ref 66]) rfl rfl rfl rfl ?_
                      refine jx_vr (pc' := 78) (as := [.int (i32 (1)), .int (i32 (1)), .int (i32 (0)), .int (i32 (0)), .int (i32 (0))]) (st := []) rfl rfl rfl rfl ⟨rfl, rfl, Nat.le_of_ble_eq_true rfl⟩ rfl rfl (c_node (dd := d) (hd := by omega) (hW := hW231) (kind := 1) (a := 1) (b := 0) (c := 0) (e := 0) (nd := nd) (e_nd := show G227 31 = nd from ((hF232.1 31 rfl).trans (e_nd)))  (h_kind := ⟨(by decide), (by decide)⟩) (h_a := ⟨(by decide), (by decide)⟩) (h_b := ⟨(by decide), (by decide)⟩) (h_c := ⟨(by decide), (by decide)⟩) (h_e := ⟨(by decide), (by decide)⟩)  (p_0 := by omega) (p_1 := by omega)) (fun o V' hq => ?_)
                      obtain ⟨G241, A242, nd2_243, rfl, rfl, hW244, hF245, hQ246, e247, p248, p249, -⟩ := hq
                      have hF251 := Fr_tr hF239 hF245 (Fr_sub (by decide)) (Fr_sub (by decide))
                      have hP252 := Pf_tr hP240 hQ246 (by omega)
                      have bnd2_243 : (0 : Int) ≤ nd2_243 ∧ nd2_243 ≤ 6999 := e247 ▸ hW244.1 31
                      refine .inr ⟨_, rfl, ?_⟩
                      refine jx_rt (v := some (.int (i32 (nd)))) rfl rfl rfl rfl rfl rfl ?_
                      have z253 := tz_f (tk2_230)
                      exact ⟨_, _, _, at2_229, fk, op0, nd2_243, tk2_230, rfl, rfl, hW244, hF251, hP252, by omega, ((hF245.1 10 rfl).trans (e233)), ((hF245.1 16 rfl).trans ((hF232.1 16 rfl).trans (e_fk))), ((hF245.1 15 rfl).trans ((hF232.1 15 rfl).trans (e_op0))), (e247), ((hF245.1 11 rfl).trans (e234)), by omega, by omega, by omega, by omega, by omega, by omega, by first | exact Or.inr (Or.inr ((⟨by omega, by omega, by omega, (wE_num p249 (by omega) (by omega))⟩)))⟩
                  · have _q : True := trivial
                    refine jx_if_eq (pc' := 59) (tg := 63) rfl rfl rfl (by decide) (by decide) (fun h254 => ?_) (fun h254 => ?_)
                    · have _q := h254
                      refine jx_ar (pc' := 64) (st' := [.int (i32 (0))]) rfl rfl rfl rfl ?_
                      refine jx_ld (pc' := 65) (l' := jSto1 [(0, .ref 66)] 1 (.int (i32 (0)))) (st' := []) rfl rfl ?_
                      obtain ⟨L255, eL255⟩ : ∃ q, q = jSto1 [(0, .ref 66)] 1 (.int (i32 (0))) := ⟨_, rfl⟩
                      rw [← eL255]
                      have gL255_0 : jGet L255 0 = some (.ref 66) := eL255 ▸ jg_ne (by decide) (rfl : jGet [(0, .ref 66)] 0 = some (.ref 66)) rfl
                      have gL255_1 : jGet L255 1 = some (.int (i32 (0))) := eL255 ▸ jg_eq
                      refine jx_ld (pc' := 66) (l' := L255) (st' := [.ref 66]) rfl (jl_aloadn gL255_0) ?_
                      refine jx_vr (pc' := 69) (as := []) (st := []) rfl rfl rfl rfl ⟨rfl, rfl, Nat.le_of_ble_eq_true rfl⟩ rfl rfl (c_next (dd := d) (hd := by omega) (hW := hW)  (ln := ln) (e_ln := show G 9 = ln from (e_ln)) (le := le) (e_le := show A 4 (ln).toNat = le from (e_le)) (at0 := at0) (e_at0 := show G 10 = at0 from (e_at0))    (p_0 := by omega)) (fun o V' hq => ?_)
                      obtain ⟨G256, A257, at2_258, tk2_259, rfl, rfl, hW260, hF261, e262, e263, p264, p265, p266, -⟩ := hq
                      have hF268 := Fr_tr hF0 hF261 (Fr_sub (by decide)) (Fr_sub (by decide))
                      have hP269 := Pf_f hP0 hF261 (by decide)
                      have bat2_258 : (0 : Int) ≤ at2_258 ∧ at2_258 ≤ 3002 := e262 ▸ hW260.1 10
                      have ztk2_259 := tz_b tk2_259
                      have btk2_259 : (0 : Int) ≤ tk2_259 ∧ tk2_259 ≤ 5 := e263 ▸ hW260.1 11
                      refine .inl ⟨rfl, ?_⟩
                      refine jx_ld (pc' := 70) (l' := L255) (st' := [.ref 66]) rfl (jl_aloadn gL255_0) ?_
                      refine jx_ar (pc' := 71) (st' := [.int (i32 (1)), .ref 66]) rfl rfl rfl rfl ?_
                      refine jx_ld (pc' := 72) (l' := L255) (st' := [.int (i32 (0)), .int (i32 (1)), .ref 66]) rfl (jl_iloadn gL255_1) ?_
                      refine jx_ar (pc' := 73) (st' := [.int (i32 (0)), .int (i32 (0)), .int (i32 (1)), .ref 66]) rfl rfl rfl rfl ?_
                      refine jx_ar (pc' := 74) (st' := [.int (i32 (0)), .int (i32 (0)), .int (i32 (0)), .int (i32 (1)), .ref 66]) rfl rfl rfl rfl ?_
                      refine jx_ar (pc' := 75) (st' := [.int (i32 (0)), .int (i32 (0)), .int (i32 (0)), .int (i32 (0)), .int (i32 (1)), .ref 66]) rfl rfl rfl rfl ?_
                      refine jx_vr (pc' := 78) (as := [.int (i32 (1)), .int (i32 (0)), .int (i32 (0)), .int (i32 (0)), .int (i32 (0))]) (st := []) rfl rfl rfl rfl ⟨rfl, rfl, Nat.le_of_ble_eq_true rfl⟩ rfl rfl (c_node (dd := d) (hd := by omega) (hW := hW260) (kind := 1) (a := 0) (b := 0) (c := 0) (e := 0) (nd := nd) (e_nd := show G256 31 = nd from ((hF261.1 31 rfl).trans (e_nd)))  (h_kind := ⟨(by decide), (by decide)⟩) (h_a := ⟨(by decide), (by decide)⟩) (h_b := ⟨(by decide), (by decide)⟩) (h_c := ⟨(by decide), (by decide)⟩) (h_e := ⟨(by decide), (by decide)⟩)  (p_0 := by omega) (p_1 := by omega)) (fun o V' hq => ?_)
                      obtain ⟨G270, A271, nd2_272, rfl, rfl, hW273, hF274, hQ275, e276, p277, p278, -⟩ := hq
                      have hF280 := Fr_tr hF268 hF274 (Fr_sub (by decide)) (Fr_sub (by decide))
                      have hP281 := Pf_tr hP269 hQ275 (by omega)
                      have bnd2_272 : (0 : Int) ≤ nd2_272 ∧ nd2_272 ≤ 6999 := e276 ▸ hW273.1 31
                      refine .inr ⟨_, rfl, ?_⟩
                      refine jx_rt (v := some (.int (i32 (nd)))) rfl rfl rfl rfl rfl rfl ?_
                      have z282 := tz_f (tk2_259)
                      exact ⟨_, _, _, at2_258, fk, op0, nd2_272, tk2_259, rfl, rfl, hW273, hF280, hP281, by omega, ((hF274.1 10 rfl).trans (e262)), ((hF274.1 16 rfl).trans ((hF261.1 16 rfl).trans (e_fk))), ((hF274.1 15 rfl).trans ((hF261.1 15 rfl).trans (e_op0))), (e276), ((hF274.1 11 rfl).trans (e263)), by omega, by omega, by omega, by omega, by omega, by omega, by first | exact Or.inr (Or.inr ((⟨by omega, by omega, by omega, (wE_num p278 (by omega) (by omega))⟩)))⟩
                    · have _q := h254
                      exact absurd h254 (by omega)
                · have _q := h218
                  refine jx_ld (pc' := 44) (l' := [(0, .ref 66)]) (st' := [.ref 66]) rfl (jl_aloadn rfl) ?_
                  refine jr_get (pc' := 47) (i := 13) (v := .int (i32 (G 13))) rfl rfl (by decide) rfl rfl ?_
                  refine jx_go (tg := 64) rfl rfl ?_
                  refine jx_ld (pc' := 65) (l' := jSto1 [(0, .ref 66)] 1 (.int (i32 (G 13)))) (st' := []) rfl rfl ?_
                  obtain ⟨L283, eL283⟩ : ∃ q, q = jSto1 [(0, .ref 66)] 1 (.int (i32 (G 13))) := ⟨_, rfl⟩
                  rw [← eL283]
                  have gL283_0 : jGet L283 0 = some (.ref 66) := eL283 ▸ jg_ne (by decide) (rfl : jGet [(0, .ref 66)] 0 = some (.ref 66)) rfl
                  have gL283_1 : jGet L283 1 = some (.int (i32 (G 13))) := eL283 ▸ jg_eq
                  refine jx_ld (pc' := 66) (l' := L283) (st' := [.ref 66]) rfl (jl_aloadn gL283_0) ?_
                  refine jx_vr (pc' := 69) (as := []) (st := []) rfl rfl rfl rfl ⟨rfl, rfl, Nat.le_of_ble_eq_true rfl⟩ rfl rfl (c_next (dd := d) (hd := by omega) (hW := hW)  (ln := ln) (e_ln := show G 9 = ln from (e_ln)) (le := le) (e_le := show A 4 (ln).toNat = le from (e_le)) (at0 := at0) (e_at0 := show G 10 = at0 from (e_at0))    (p_0 := by omega)) (fun o V' hq => ?_)
                  obtain ⟨G284, A285, at2_286, tk2_287, rfl, rfl, hW288, hF289, e290, e291, p292, p293, p294, -⟩ := hq
                  have hF296 := Fr_tr hF0 hF289 (Fr_sub (by decide)) (Fr_sub (by decide))
                  have hP297 := Pf_f hP0 hF289 (by decide)
                  have bat2_286 : (0 : Int) ≤ at2_286 ∧ at2_286 ≤ 3002 := e290 ▸ hW288.1 10
                  have ztk2_287 := tz_b tk2_287
                  have btk2_287 : (0 : Int) ≤ tk2_287 ∧ tk2_287 ≤ 5 := e291 ▸ hW288.1 11
                  refine .inl ⟨rfl, ?_⟩
                  refine jx_ld (pc' := 70) (l' := L283) (st' := [.ref 66]) rfl (jl_aloadn gL283_0) ?_
                  refine jx_ar (pc' := 71) (st' := [.int (i32 (1)), .ref 66]) rfl rfl rfl rfl ?_
                  refine jx_ld (pc' := 72) (l' := L283) (st' := [.int (i32 (G 13)), .int (i32 (1)), .ref 66]) rfl (jl_iloadn gL283_1) ?_
                  refine jx_ar (pc' := 73) (st' := [.int (i32 (0)), .int (i32 (G 13)), .int (i32 (1)), .ref 66]) rfl rfl rfl rfl ?_
                  refine jx_ar (pc' := 74) (st' := [.int (i32 (0)), .int (i32 (0)), .int (i32 (G 13)), .int (i32 (1)), .ref 66]) rfl rfl rfl rfl ?_
                  refine jx_ar (pc' := 75) (st' := [.int (i32 (0)), .int (i32 (0)), .int (i32 (0)), .int (i32 (G 13)), .int (i32 (1)), .ref 66]) rfl rfl rfl rfl ?_
                  refine jx_vr (pc' := 78) (as := [.int (i32 (1)), .int (i32 (G 13)), .int (i32 (0)), .int (i32 (0)), .int (i32 (0))]) (st := []) rfl rfl rfl rfl ⟨rfl, rfl, Nat.le_of_ble_eq_true rfl⟩ rfl rfl (c_node (dd := d) (hd := by omega) (hW := hW288) (kind := 1) (a := G 13) (b := 0) (c := 0) (e := 0) (nd := nd) (e_nd := show G284 31 = nd from ((hF289.1 31 rfl).trans (e_nd)))  (h_kind := ⟨(by decide), (by decide)⟩) (h_a := ⟨(Int.le_trans (by decide : (-2147483648 : Int) ≤ -2147483648) b107.1), (Int.le_trans b107.2 (by decide : (2147483647 : Int) ≤ 2147483647))⟩) (h_b := ⟨(by decide), (by decide)⟩) (h_c := ⟨(by decide), (by decide)⟩) (h_e := ⟨(by decide), (by decide)⟩)  (p_0 := by omega) (p_1 := by omega)) (fun o V' hq => ?_)
                  obtain ⟨G298, A299, nd2_300, rfl, rfl, hW301, hF302, hQ303, e304, p305, p306, -⟩ := hq
                  have hF308 := Fr_tr hF296 hF302 (Fr_sub (by decide)) (Fr_sub (by decide))
                  have hP309 := Pf_tr hP297 hQ303 (by omega)
                  have bnd2_300 : (0 : Int) ≤ nd2_300 ∧ nd2_300 ≤ 6999 := e304 ▸ hW301.1 31
                  refine .inr ⟨_, rfl, ?_⟩
                  refine jx_rt (v := some (.int (i32 (nd)))) rfl rfl rfl rfl rfl rfl ?_
                  have z310 := tz_f (tk2_287)
                  exact ⟨_, _, _, at2_286, fk, op0, nd2_300, tk2_287, rfl, rfl, hW301, hF308, hP309, by omega, ((hF302.1 10 rfl).trans (e290)), ((hF302.1 16 rfl).trans ((hF289.1 16 rfl).trans (e_fk))), ((hF302.1 15 rfl).trans ((hF289.1 15 rfl).trans (e_op0))), (e304), ((hF302.1 11 rfl).trans (e291)), by omega, by omega, by omega, by omega, by omega, by omega, by first | exact Or.inr (Or.inr ((⟨by omega, by omega, by omega, (wE_num p306 (by omega) (by omega))⟩)))⟩
            · have _q : True := trivial
              refine jx_if_eq (pc' := 35) (tg := 79) rfl rfl rfl (by decide) (by decide) (fun h311 => ?_) (fun h311 => ?_)
              · have _q := h311
                refine jx_ld (pc' := 80) (l' := [(0, .ref 66)]) (st' := [.ref 66]) rfl (jl_aloadn rfl) ?_
                refine jx_ar (pc' := 82) (st' := [.int (i32 (40)), .ref 66]) rfl rfl rfl rfl ?_
                refine jx_vr (pc' := 85) (as := [.int (i32 (40))]) (st := []) rfl rfl rfl rfl ⟨rfl, rfl, Nat.le_of_ble_eq_true rfl⟩ rfl rfl (c_is (dd := d) (hd := by omega) (hW := hW) (k := 40) (tk := tk0) (e_tk := show G 11 = tk0 from (e_tk0)) (tn := G 13) (e_tn := show G 13 = G 13 from rfl)  (h_k := ⟨(by decide), (by decide)⟩)  ) (fun o V' hq => ?_)
                obtain ⟨r312, rfl, rfl, b313, q314⟩ := hq
                refine .inr ⟨_, rfl, ?_⟩
                rcases q314 with ⟨rfl, a315, a316, a317⟩ | rfl
                · have _q : True := trivial
                  refine jx_if_eq (pc' := 88) (tg := 133) rfl rfl rfl (by decide) (by decide) (fun h318 => ?_) (fun h318 => ?_)
                  · have _q := h318
                    exact absurd h318 (by omega)
                  · have _q := h318
                    refine jx_ld (pc' := 89) (l' := [(0, .ref 66)]) (st' := [.ref 66]) rfl (jl_aloadn rfl) ?_
                    refine jx_vr (pc' := 92) (as := []) (st := []) rfl rfl rfl rfl ⟨rfl, rfl, Nat.le_of_ble_eq_true rfl⟩ rfl rfl (c_open (dd := d) (hd := by omega) (hW := hW)  (fk := fk) (e_fk := show G 16 = fk from (e_fk)) (op0 := op0) (e_op0 := show G 15 = op0 from (e_op0))    (p_0 := by omega)) (fun o V' hq => ?_)
                    obtain ⟨G319, A320, fk2_321, op2_322, rfl, rfl, hW323, hF324, e325, e326, p327, q328⟩ := hq
                    have hF329 := Fr_tr hF0 hF324 (Fr_sub (by decide)) (Fr_sub (by decide))
                    have hP330 := Pf_f hP0 hF324 (by decide)
                    have bfk2_321 : (0 : Int) ≤ fk2_321 ∧ fk2_321 ≤ 6 := e325 ▸ hW323.1 16
                    have bop2_322 : (-2147483648 : Int) ≤ op2_322 ∧ op2_322 ≤ 2147483647 := e326 ▸ hW323.1 15
                    refine .inl ⟨rfl, ?_⟩
                    rcases q328 with a331 | ⟨a332, a333, a334⟩
                    · have _q : True := trivial
                      refine jx_ld (pc' := 93) (l' := [(0, .ref 66)]) (st' := [.ref 66]) rfl (jl_aloadn rfl) ?_
                      refine jx_ar (pc' := 94) (st' := [.int (i32 (1)), .ref 66]) rfl rfl rfl rfl ?_
                      refine jx_vr (pc' := 97) (as := [.int (i32 (1))]) (st := []) rfl rfl rfl rfl ⟨rfl, rfl, Nat.le_of_ble_eq_true rfl⟩ rfl rfl (c_need (dd := d) (hd := by omega) (hW := hW323) (g := 1) (ln := ln) (e_ln := show G319 9 = ln from ((hF324.1 9 rfl).trans (e_ln))) (le := le) (e_le := show A320 4 (ln).toNat = le from (congrFun (hF324.2 4 rfl) _).trans (e_le)) (at0 := at0) (e_at0 := show G319 10 = at0 from ((hF324.1 10 rfl).trans (e_at0))) (fk := fk2_321) (e_fk := show G319 16 = fk2_321 from (e325)) (tk0 := tk0) (e_tk0 := show G319 11 = tk0 from ((hF324.1 11 rfl).trans (e_tk0)))  (h_g := ⟨(by decide), (by decide)⟩)  (p_0 := by omega)) (fun o V' hq => ?_)
                      obtain ⟨G335, A336, at2_337, tk2_338, fk2_339, rfl, rfl, hW340, hF341, e342, e343, e344, p345, p346, q347⟩ := hq
                      have hF348 := Fr_tr hF329 hF341 (Fr_sub (by decide)) (Fr_sub (by decide))
                      have hP349 := Pf_f hP330 hF341 (by decide)
                      have bat2_337 : (0 : Int) ≤ at2_337 ∧ at2_337 ≤ 3002 := e342 ▸ hW340.1 10
                      have ztk2_338 := tz_b tk2_338
                      have btk2_338 : (0 : Int) ≤ tk2_338 ∧ tk2_338 ≤ 5 := e343 ▸ hW340.1 11
                      have bfk2_339 : (0 : Int) ≤ fk2_339 ∧ fk2_339 ≤ 6 := e344 ▸ hW340.1 16
                      refine .inl ⟨rfl, ?_⟩
                      rcases q347 with ⟨a350, a351, a352, a353⟩ | ⟨a354, a355, a356, a357⟩
                      · have _q : True := trivial
                        refine jx_ld (pc' := 98) (l' := [(0, .ref 66)]) (st' := [.ref 66]) rfl (jl_aloadn rfl) ?_
                        refine jx_vr (pc' := 101) (as := []) (st := []) rfl rfl rfl rfl ⟨rfl, rfl, Nat.le_of_ble_eq_true rfl⟩ rfl rfl (hE (dd := d) (hd := by omega) (hW := hW340)  (ln := ln) (e_ln := show G335 9 = ln from ((hF341.1 9 rfl).trans ((hF324.1 9 rfl).trans (e_ln)))) (le := le) (e_le := show A336 4 (ln).toNat = le from (congrFun ((hF341.2 4 rfl).trans (hF324.2 4 rfl)) _).trans (e_le)) (at0 := at2_337) (e_at0 := show G335 10 = at2_337 from (e342)) (fk := fk2_339) (e_fk := show G335 16 = fk2_339 from (e344)) (op0 := op2_322) (e_op0 := show G335 15 = op2_322 from ((hF341.1 15 rfl).trans (e326))) (nd := nd) (e_nd := show G335 31 = nd from ((hF341.1 31 rfl).trans ((hF324.1 31 rfl).trans (e_nd)))) (tk0 := tk2_338) (e_tk0 := show G335 11 = tk2_338 from (e343)) (i_SV := (SV_ext (((hF341.1 29 rfl).trans (hF324.1 29 rfl))) (((hF341.2 14 rfl).trans (hF324.2 14 rfl))) i_SV))   (p_0 := by omega) (p_1 := by omega) (p_2 := by omega) (p_3 := by omega) (p_4 := by omega) (p_5 := by omega)) (fun o V' hq => ?_)
                        obtain ⟨G358, A359, r360, at2_361, fk2_362, op2_363, nd2_364, tk2_365, rfl, rfl, hW366, hF367, hQ368, b369, e370, e371, e372, e373, e374, p375, p376, p377, p378, p379, p380, q381⟩ := hq
                        have hF382 := Fr_tr hF348 hF367 (Fr_sub (by decide)) (Fr_sub (by decide))
                        have hP383 := Pf_tr hP349 hQ368 (by omega)
                        have bat2_361 : (0 : Int) ≤ at2_361 ∧ at2_361 ≤ 3002 := e370 ▸ hW366.1 10
                        have bfk2_362 : (0 : Int) ≤ fk2_362 ∧ fk2_362 ≤ 6 := e371 ▸ hW366.1 16
                        have bop2_363 : (-2147483648 : Int) ≤ op2_363 ∧ op2_363 ≤ 2147483647 := e372 ▸ hW366.1 15
                        have bnd2_364 : (0 : Int) ≤ nd2_364 ∧ nd2_364 ≤ 6999 := e373 ▸ hW366.1 31
                        have ztk2_365 := tz_b tk2_365
                        have btk2_365 : (0 : Int) ≤ tk2_365 ∧ tk2_365 ≤ 5 := e374 ▸ hW366.1 11
                        refine .inr ⟨_, rfl, ?_⟩
                        rcases q381 with ⟨a384, a385, a386, a387, a388, a389⟩ | ⟨a390, a391, a392⟩ | ⟨a393, a394, a395, a396⟩
                        · have _q : True := trivial
                          refine jx_ld (pc' := 102) (l' := jSto1 [(0, .ref 66)] 1 (.int (i32 (r360)))) (st' := []) rfl rfl ?_
                          obtain ⟨L397, eL397⟩ : ∃ q, q = jSto1 [(0, .ref 66)] 1 (.int (i32 (r360))) := ⟨_, rfl⟩
                          rw [← eL397]
                          have gL397_0 : jGet L397 0 = some (.ref 66) := eL397 ▸ jg_ne (by decide) (rfl : jGet [(0, .ref 66)] 0 = some (.ref 66)) rfl
                          have gL397_1 : jGet L397 1 = some (.int (i32 (r360))) := eL397 ▸ jg_eq
                          refine jx_ld (pc' := 103) (l' := L397) (st' := [.ref 66]) rfl (jl_aloadn gL397_0) ?_
                          refine jx_ld (pc' := 104) (l' := L397) (st' := [.ref 66, .ref 66]) rfl (jl_aloadn gL397_0) ?_
                          refine jx_ar (pc' := 106) (st' := [.int (i32 (41)), .ref 66, .ref 66]) rfl rfl rfl rfl ?_
                          have b398 : (-2147483648 : Int) ≤ G358 13 ∧ G358 13 ≤ 2147483647 := hW366.1 13
                          refine jx_vr (pc' := 109) (as := [.int (i32 (41))]) (st := [.ref 66]) rfl rfl rfl rfl ⟨rfl, rfl, Nat.le_of_ble_eq_true rfl⟩ rfl rfl (c_is (dd := d) (hd := by omega) (hW := hW366) (k := 41) (tk := tk2_365) (e_tk := show G358 11 = tk2_365 from (e374)) (tn := G358 13) (e_tn := show G358 13 = G358 13 from rfl)  (h_k := ⟨(by decide), (by decide)⟩)  ) (fun o V' hq => ?_)
                          obtain ⟨r399, rfl, rfl, b400, q401⟩ := hq
                          refine .inr ⟨_, rfl, ?_⟩
                          rcases q401 with ⟨rfl, a402, a403, a404⟩ | rfl
                          · have _q : True := trivial
                            refine jx_vr (pc' := 112) (as := [.int (i32 (1))]) (st := []) rfl rfl rfl rfl ⟨rfl, rfl, Nat.le_of_ble_eq_true rfl⟩ rfl rfl (c_need (dd := d) (hd := by omega) (hW := hW366) (g := 1) (ln := ln) (e_ln := show G358 9 = ln from ((hF367.1 9 rfl).trans ((hF341.1 9 rfl).trans ((hF324.1 9 rfl).trans (e_ln))))) (le := le) (e_le := show A359 4 (ln).toNat = le from (congrFun ((hF367.2 4 rfl).trans ((hF341.2 4 rfl).trans (hF324.2 4 rfl))) _).trans (e_le)) (at0 := at2_361) (e_at0 := show G358 10 = at2_361 from (e370)) (fk := fk2_362) (e_fk := show G358 16 = fk2_362 from (e371)) (tk0 := tk2_365) (e_tk0 := show G358 11 = tk2_365 from (e374))  (h_g := ⟨(by decide), (by decide)⟩)  (p_0 := by omega)) (fun o V' hq => ?_)
                            obtain ⟨G405, A406, at2_407, tk2_408, fk2_409, rfl, rfl, hW410, hF411, e412, e413, e414, p415, p416, q417⟩ := hq
                            have hF418 := Fr_tr hF382 hF411 (Fr_sub (by decide)) (Fr_sub (by decide))
                            have hP419 := Pf_f hP383 hF411 (by decide)
                            have bat2_407 : (0 : Int) ≤ at2_407 ∧ at2_407 ≤ 3002 := e412 ▸ hW410.1 10
                            have ztk2_408 := tz_b tk2_408
                            have btk2_408 : (0 : Int) ≤ tk2_408 ∧ tk2_408 ≤ 5 := e413 ▸ hW410.1 11
                            have bfk2_409 : (0 : Int) ≤ fk2_409 ∧ fk2_409 ≤ 6 := e414 ▸ hW410.1 16
                            refine .inl ⟨rfl, ?_⟩
                            rcases q417 with ⟨a420, a421, a422, a423⟩ | ⟨a424, a425, a426, a427⟩
                            · have _q : True := trivial
                              refine jx_ld (pc' := 113) (l' := L397) (st' := [.ref 66]) rfl (jl_aloadn gL397_0) ?_
                              refine jx_ar (pc' := 114) (st' := [.ref 66, .ref 66]) rfl rfl rfl rfl ?_
                              refine jr_get (pc' := 117) (i := 15) (v := .int (i32 (op2_363))) rfl rfl (by decide) (rFv_eq (by decide) (show G405 15 = op2_363 from ((hF411.1 15 rfl).trans (e372)))) rfl ?_
                              refine jx_ar (pc' := 118) (st' := [.int (i32 (1)), .int (i32 (op2_363)), .ref 66]) rfl rfl rfl rfl ?_
                              refine jx_sub (pc' := 119) rfl rfl ?_
                              refine jr_put (pc' := 122) (i := 15) (z := (op2_363 - 1)) rfl rfl (by decide) rfl rfl rfl rfl rfl rfl ?_
                              have hW428 : Wk (uG G405 15 ((op2_363 - 1))) A406 := Wk_g hW410 (show (-2147483648 : Int) ≤ (op2_363 - 1) by omega) (show (op2_363 - 1) ≤ (2147483647 : Int) by omega)
                              have hF429 := Fr_g (z := (op2_363 - 1)) (i := 15) hF418 (by decide)
                              refine jx_ld (pc' := 123) (l' := L397) (st' := [.ref 66]) rfl (jl_aloadn gL397_0) ?_
                              refine jx_ar (pc' := 125) (st' := [.int (i32 (7)), .ref 66]) rfl rfl rfl rfl ?_
                              refine jx_ld (pc' := 126) (l' := L397) (st' := [.int (i32 (r360)), .int (i32 (7)), .ref 66]) rfl (jl_iloadn gL397_1) ?_
                              refine jx_ar (pc' := 127) (st' := [.int (i32 (0)), .int (i32 (r360)), .int (i32 (7)), .ref 66]) rfl rfl rfl rfl ?_
                              refine jx_ar (pc' := 128) (st' := [.int (i32 (0)), .int (i32 (0)), .int (i32 (r360)), .int (i32 (7)), .ref 66]) rfl rfl rfl rfl ?_
                              refine jx_ar (pc' := 129) (st' := [.int (i32 (0)), .int (i32 (0)), .int (i32 (0)), .int (i32 (r360)), .int (i32 (7)), .ref 66]) rfl rfl rfl rfl ?_
                              refine jx_vr (pc' := 132) (as := [.int (i32 (7)), .int (i32 (r360)), .int (i32 (0)), .int (i32 (0)), .int (i32 (0))]) (st := []) rfl rfl rfl rfl ⟨rfl, rfl, Nat.le_of_ble_eq_true rfl⟩ rfl rfl (c_node (dd := d) (hd := by omega) (hW := hW428) (kind := 7) (a := r360) (b := 0) (c := 0) (e := 0) (nd := nd2_364) (e_nd := show (uG G405 15 ((op2_363 - 1))) 31 = nd2_364 from ((hF411.1 31 rfl).trans (e373)))  (h_kind := ⟨(by decide), (by decide)⟩) (h_a := ⟨(Int.le_trans (by decide : (-2147483648 : Int) ≤ -2147483648) b369.1), (Int.le_trans b369.2 (by decide : (2147483647 : Int) ≤ 2147483647))⟩) (h_b := ⟨(by decide), (by decide)⟩) (h_c := ⟨(by decide), (by decide)⟩) (h_e := ⟨(by decide), (by decide)⟩)  (p_0 := by omega) (p_1 := by omega)) (fun o V' hq => ?_)
                              obtain ⟨G430, A431, nd2_432, rfl, rfl, hW433, hF434, hQ435, e436, p437, p438, -⟩ := hq
                              have hF440 := Fr_tr hF429 hF434 (Fr_sub (by decide)) (Fr_sub (by decide))
                              have hP441 := Pf_tr hP419 hQ435 (by omega)
                              have bnd2_432 : (0 : Int) ≤ nd2_432 ∧ nd2_432 ≤ 6999 := e436 ▸ hW433.1 31
                              refine .inr ⟨_, rfl, ?_⟩
                              refine jx_rt (v := some (.int (i32 (nd2_364)))) rfl rfl rfl rfl rfl rfl ?_
                              have z442 := tz_f (tk2_408)
                              exact ⟨_, _, _, at2_407, fk2_409, (op2_363 - 1), nd2_432, tk2_408, rfl, rfl, hW433, hF440, hP441, by omega, ((hF434.1 10 rfl).trans (e412)), ((hF434.1 16 rfl).trans (e414)), (hF434.1 15 rfl), (e436), ((hF434.1 11 rfl).trans (e413)), by omega, by omega, by omega, by omega, by omega, by omega, by first | exact Or.inr (Or.inl (⟨by omega, by omega, by omega⟩))⟩
                            · have _q : True := trivial
                              exfalso
                              omega
                          · have _q : True := trivial
                            refine jx_vr (pc' := 112) (as := [.int (i32 (0))]) (st := []) rfl rfl rfl rfl ⟨rfl, rfl, Nat.le_of_ble_eq_true rfl⟩ rfl rfl (c_need (dd := d) (hd := by omega) (hW := hW366) (g := 0) (ln := ln) (e_ln := show G358 9 = ln from ((hF367.1 9 rfl).trans ((hF341.1 9 rfl).trans ((hF324.1 9 rfl).trans (e_ln))))) (le := le) (e_le := show A359 4 (ln).toNat = le from (congrFun ((hF367.2 4 rfl).trans ((hF341.2 4 rfl).trans (hF324.2 4 rfl))) _).trans (e_le)) (at0 := at2_361) (e_at0 := show G358 10 = at2_361 from (e370)) (fk := fk2_362) (e_fk := show G358 16 = fk2_362 from (e371)) (tk0 := tk2_365) (e_tk0 := show G358 11 = tk2_365 from (e374))  (h_g := ⟨(by decide), (by decide)⟩)  (p_0 := by omega)) (fun o V' hq => ?_)
                            obtain ⟨G443, A444, at2_445, tk2_446, fk2_447, rfl, rfl, hW448, hF449, e450, e451, e452, p453, p454, q455⟩ := hq
                            have hF456 := Fr_tr hF382 hF449 (Fr_sub (by decide)) (Fr_sub (by decide))
                            have hP457 := Pf_f hP383 hF449 (by decide)
                            have bat2_445 : (0 : Int) ≤ at2_445 ∧ at2_445 ≤ 3002 := e450 ▸ hW448.1 10
                            have ztk2_446 := tz_b tk2_446
                            have btk2_446 : (0 : Int) ≤ tk2_446 ∧ tk2_446 ≤ 5 := e451 ▸ hW448.1 11
                            have bfk2_447 : (0 : Int) ≤ fk2_447 ∧ fk2_447 ≤ 6 := e452 ▸ hW448.1 16
                            refine .inl ⟨rfl, ?_⟩
                            rcases q455 with ⟨a458, a459, a460, a461⟩ | ⟨a462, a463, a464, a465⟩
                            · have _q : True := trivial
                              refine jx_ld (pc' := 113) (l' := L397) (st' := [.ref 66]) rfl (jl_aloadn gL397_0) ?_
                              refine jx_ar (pc' := 114) (st' := [.ref 66, .ref 66]) rfl rfl rfl rfl ?_
                              refine jr_get (pc' := 117) (i := 15) (v := .int (i32 (op2_363))) rfl rfl (by decide) (rFv_eq (by decide) (show G443 15 = op2_363 from ((hF449.1 15 rfl).trans (e372)))) rfl ?_
                              refine jx_ar (pc' := 118) (st' := [.int (i32 (1)), .int (i32 (op2_363)), .ref 66]) rfl rfl rfl rfl ?_
                              refine jx_sub (pc' := 119) rfl rfl ?_
                              refine jr_put (pc' := 122) (i := 15) (z := (op2_363 - 1)) rfl rfl (by decide) rfl rfl rfl rfl rfl rfl ?_
                              have hW466 : Wk (uG G443 15 ((op2_363 - 1))) A444 := Wk_g hW448 (show (-2147483648 : Int) ≤ (op2_363 - 1) by omega) (show (op2_363 - 1) ≤ (2147483647 : Int) by omega)
                              have hF467 := Fr_g (z := (op2_363 - 1)) (i := 15) hF456 (by decide)
                              refine jx_ld (pc' := 123) (l' := L397) (st' := [.ref 66]) rfl (jl_aloadn gL397_0) ?_
                              refine jx_ar (pc' := 125) (st' := [.int (i32 (7)), .ref 66]) rfl rfl rfl rfl ?_
                              refine jx_ld (pc' := 126) (l' := L397) (st' := [.int (i32 (r360)), .int (i32 (7)), .ref 66]) rfl (jl_iloadn gL397_1) ?_
                              refine jx_ar (pc' := 127) (st' := [.int (i32 (0)), .int (i32 (r360)), .int (i32 (7)), .ref 66]) rfl rfl rfl rfl ?_
                              refine jx_ar (pc' := 128) (st' := [.int (i32 (0)), .int (i32 (0)), .int (i32 (r360)), .int (i32 (7)), .ref 66]) rfl rfl rfl rfl ?_
                              refine jx_ar (pc' := 129) (st' := [.int (i32 (0)), .int (i32 (0)), .int (i32 (0)), .int (i32 (r360)), .int (i32 (7)), .ref 66]) rfl rfl rfl rfl ?_
                              refine jx_vr (pc' := 132) (as := [.int (i32 (7)), .int (i32 (r360)), .int (i32 (0)), .int (i32 (0)), .int (i32 (0))]) (st := []) rfl rfl rfl rfl ⟨rfl, rfl, Nat.le_of_ble_eq_true rfl⟩ rfl rfl (c_node (dd := d) (hd := by omega) (hW := hW466) (kind := 7) (a := r360) (b := 0) (c := 0) (e := 0) (nd := nd2_364) (e_nd := show (uG G443 15 ((op2_363 - 1))) 31 = nd2_364 from ((hF449.1 31 rfl).trans (e373)))  (h_kind := ⟨(by decide), (by decide)⟩) (h_a := ⟨(Int.le_trans (by decide : (-2147483648 : Int) ≤ -2147483648) b369.1), (Int.le_trans b369.2 (by decide : (2147483647 : Int) ≤ 2147483647))⟩) (h_b := ⟨(by decide), (by decide)⟩) (h_c := ⟨(by decide), (by decide)⟩) (h_e := ⟨(by decide), (by decide)⟩)  (p_0 := by omega) (p_1 := by omega)) (fun o V' hq => ?_)
                              obtain ⟨G468, A469, nd2_470, rfl, rfl, hW471, hF472, hQ473, e474, p475, p476, -⟩ := hq
                              have hF478 := Fr_tr hF467 hF472 (Fr_sub (by decide)) (Fr_sub (by decide))
                              have hP479 := Pf_tr hP457 hQ473 (by omega)
                              have bnd2_470 : (0 : Int) ≤ nd2_470 ∧ nd2_470 ≤ 6999 := e474 ▸ hW471.1 31
                              refine .inr ⟨_, rfl, ?_⟩
                              refine jx_rt (v := some (.int (i32 (nd2_364)))) rfl rfl rfl rfl rfl rfl ?_
                              have z480 := tz_f (tk2_446)
                              exact ⟨_, _, _, at2_445, fk2_447, (op2_363 - 1), nd2_470, tk2_446, rfl, rfl, hW471, hF478, hP479, by omega, ((hF472.1 10 rfl).trans (e450)), ((hF472.1 16 rfl).trans (e452)), (hF472.1 15 rfl), (e474), ((hF472.1 11 rfl).trans (e451)), by omega, by omega, by omega, by omega, by omega, by omega, by first | exact Or.inr (Or.inl (⟨by omega, by omega, by omega⟩))⟩
                            · have _q : True := trivial
                              exfalso
                              omega
                        · have _q : True := trivial
                          exfalso
                          omega
                        · have _q : True := trivial
                          exfalso
                          omega
                      · have _q : True := trivial
                        exfalso
                        omega
                    · have _q : True := trivial
                      refine jx_ld (pc' := 93) (l' := [(0, .ref 66)]) (st' := [.ref 66]) rfl (jl_aloadn rfl) ?_
                      refine jx_ar (pc' := 94) (st' := [.int (i32 (1)), .ref 66]) rfl rfl rfl rfl ?_
                      refine jx_vr (pc' := 97) (as := [.int (i32 (1))]) (st := []) rfl rfl rfl rfl ⟨rfl, rfl, Nat.le_of_ble_eq_true rfl⟩ rfl rfl (c_need (dd := d) (hd := by omega) (hW := hW323) (g := 1) (ln := ln) (e_ln := show G319 9 = ln from ((hF324.1 9 rfl).trans (e_ln))) (le := le) (e_le := show A320 4 (ln).toNat = le from (congrFun (hF324.2 4 rfl) _).trans (e_le)) (at0 := at0) (e_at0 := show G319 10 = at0 from ((hF324.1 10 rfl).trans (e_at0))) (fk := fk2_321) (e_fk := show G319 16 = fk2_321 from (e325)) (tk0 := tk0) (e_tk0 := show G319 11 = tk0 from ((hF324.1 11 rfl).trans (e_tk0)))  (h_g := ⟨(by decide), (by decide)⟩)  (p_0 := by omega)) (fun o V' hq => ?_)
                      obtain ⟨G481, A482, at2_483, tk2_484, fk2_485, rfl, rfl, hW486, hF487, e488, e489, e490, p491, p492, q493⟩ := hq
                      have hF494 := Fr_tr hF329 hF487 (Fr_sub (by decide)) (Fr_sub (by decide))
                      have hP495 := Pf_f hP330 hF487 (by decide)
                      have bat2_483 : (0 : Int) ≤ at2_483 ∧ at2_483 ≤ 3002 := e488 ▸ hW486.1 10
                      have ztk2_484 := tz_b tk2_484
                      have btk2_484 : (0 : Int) ≤ tk2_484 ∧ tk2_484 ≤ 5 := e489 ▸ hW486.1 11
                      have bfk2_485 : (0 : Int) ≤ fk2_485 ∧ fk2_485 ≤ 6 := e490 ▸ hW486.1 16
                      refine .inl ⟨rfl, ?_⟩
                      rcases q493 with ⟨a496, a497, a498, a499⟩ | ⟨a500, a501, a502, a503⟩
                      · have _q : True := trivial
                        refine jx_ld (pc' := 98) (l' := [(0, .ref 66)]) (st' := [.ref 66]) rfl (jl_aloadn rfl) ?_
                        refine jx_vr (pc' := 101) (as := []) (st := []) rfl rfl rfl rfl ⟨rfl, rfl, Nat.le_of_ble_eq_true rfl⟩ rfl rfl (hE (dd := d) (hd := by omega) (hW := hW486)  (ln := ln) (e_ln := show G481 9 = ln from ((hF487.1 9 rfl).trans ((hF324.1 9 rfl).trans (e_ln)))) (le := le) (e_le := show A482 4 (ln).toNat = le from (congrFun ((hF487.2 4 rfl).trans (hF324.2 4 rfl)) _).trans (e_le)) (at0 := at2_483) (e_at0 := show G481 10 = at2_483 from (e488)) (fk := fk2_485) (e_fk := show G481 16 = fk2_485 from (e490)) (op0 := op2_322) (e_op0 := show G481 15 = op2_322 from ((hF487.1 15 rfl).trans (e326))) (nd := nd) (e_nd := show G481 31 = nd from ((hF487.1 31 rfl).trans ((hF324.1 31 rfl).trans (e_nd)))) (tk0 := tk2_484) (e_tk0 := show G481 11 = tk2_484 from (e489)) (i_SV := (SV_ext (((hF487.1 29 rfl).trans (hF324.1 29 rfl))) (((hF487.2 14 rfl).trans (hF324.2 14 rfl))) i_SV))   (p_0 := by omega) (p_1 := by omega) (p_2 := by omega) (p_3 := by omega) (p_4 := by omega) (p_5 := by omega)) (fun o V' hq => ?_)
                        obtain ⟨G504, A505, r506, at2_507, fk2_508, op2_509, nd2_510, tk2_511, rfl, rfl, hW512, hF513, hQ514, b515, e516, e517, e518, e519, e520, p521, p522, p523, p524, p525, p526, q527⟩ := hq
                        have hF528 := Fr_tr hF494 hF513 (Fr_sub (by decide)) (Fr_sub (by decide))
                        have hP529 := Pf_tr hP495 hQ514 (by omega)
                        have bat2_507 : (0 : Int) ≤ at2_507 ∧ at2_507 ≤ 3002 := e516 ▸ hW512.1 10
                        have bfk2_508 : (0 : Int) ≤ fk2_508 ∧ fk2_508 ≤ 6 := e517 ▸ hW512.1 16
                        have bop2_509 : (-2147483648 : Int) ≤ op2_509 ∧ op2_509 ≤ 2147483647 := e518 ▸ hW512.1 15
                        have bnd2_510 : (0 : Int) ≤ nd2_510 ∧ nd2_510 ≤ 6999 := e519 ▸ hW512.1 31
                        have ztk2_511 := tz_b tk2_511
                        have btk2_511 : (0 : Int) ≤ tk2_511 ∧ tk2_511 ≤ 5 := e520 ▸ hW512.1 11
                        refine .inr ⟨_, rfl, ?_⟩
                        rcases q527 with ⟨a530, a531, a532, a533, a534, a535⟩ | ⟨a536, a537, a538⟩ | ⟨a539, a540, a541, a542⟩
                        · have _q : True := trivial
                          refine jx_ld (pc' := 102) (l' := jSto1 [(0, .ref 66)] 1 (.int (i32 (r506)))) (st' := []) rfl rfl ?_
                          obtain ⟨L543, eL543⟩ : ∃ q, q = jSto1 [(0, .ref 66)] 1 (.int (i32 (r506))) := ⟨_, rfl⟩
                          rw [← eL543]
                          have gL543_0 : jGet L543 0 = some (.ref 66) := eL543 ▸ jg_ne (by decide) (rfl : jGet [(0, .ref 66)] 0 = some (.ref 66)) rfl
                          have gL543_1 : jGet L543 1 = some (.int (i32 (r506))) := eL543 ▸ jg_eq
                          refine jx_ld (pc' := 103) (l' := L543) (st' := [.ref 66]) rfl (jl_aloadn gL543_0) ?_
                          refine jx_ld (pc' := 104) (l' := L543) (st' := [.ref 66, .ref 66]) rfl (jl_aloadn gL543_0) ?_
                          refine jx_ar (pc' := 106) (st' := [.int (i32 (41)), .ref 66, .ref 66]) rfl rfl rfl rfl ?_
                          have b544 : (-2147483648 : Int) ≤ G504 13 ∧ G504 13 ≤ 2147483647 := hW512.1 13
                          refine jx_vr (pc' := 109) (as := [.int (i32 (41))]) (st := [.ref 66]) rfl rfl rfl rfl ⟨rfl, rfl, Nat.le_of_ble_eq_true rfl⟩ rfl rfl (c_is (dd := d) (hd := by omega) (hW := hW512) (k := 41) (tk := tk2_511) (e_tk := show G504 11 = tk2_511 from (e520)) (tn := G504 13) (e_tn := show G504 13 = G504 13 from rfl)  (h_k := ⟨(by decide), (by decide)⟩)  ) (fun o V' hq => ?_)
                          obtain ⟨r545, rfl, rfl, b546, q547⟩ := hq
                          refine .inr ⟨_, rfl, ?_⟩
                          rcases q547 with ⟨rfl, a548, a549, a550⟩ | rfl
                          · have _q : True := trivial
                            refine jx_vr (pc' := 112) (as := [.int (i32 (1))]) (st := []) rfl rfl rfl rfl ⟨rfl, rfl, Nat.le_of_ble_eq_true rfl⟩ rfl rfl (c_need (dd := d) (hd := by omega) (hW := hW512) (g := 1) (ln := ln) (e_ln := show G504 9 = ln from ((hF513.1 9 rfl).trans ((hF487.1 9 rfl).trans ((hF324.1 9 rfl).trans (e_ln))))) (le := le) (e_le := show A505 4 (ln).toNat = le from (congrFun ((hF513.2 4 rfl).trans ((hF487.2 4 rfl).trans (hF324.2 4 rfl))) _).trans (e_le)) (at0 := at2_507) (e_at0 := show G504 10 = at2_507 from (e516)) (fk := fk2_508) (e_fk := show G504 16 = fk2_508 from (e517)) (tk0 := tk2_511) (e_tk0 := show G504 11 = tk2_511 from (e520))  (h_g := ⟨(by decide), (by decide)⟩)  (p_0 := by omega)) (fun o V' hq => ?_)
                            obtain ⟨G551, A552, at2_553, tk2_554, fk2_555, rfl, rfl, hW556, hF557, e558, e559, e560, p561, p562, q563⟩ := hq
                            have hF564 := Fr_tr hF528 hF557 (Fr_sub (by decide)) (Fr_sub (by decide))
                            have hP565 := Pf_f hP529 hF557 (by decide)
                            have bat2_553 : (0 : Int) ≤ at2_553 ∧ at2_553 ≤ 3002 := e558 ▸ hW556.1 10
                            have ztk2_554 := tz_b tk2_554
                            have btk2_554 : (0 : Int) ≤ tk2_554 ∧ tk2_554 ≤ 5 := e559 ▸ hW556.1 11
                            have bfk2_555 : (0 : Int) ≤ fk2_555 ∧ fk2_555 ≤ 6 := e560 ▸ hW556.1 16
                            refine .inl ⟨rfl, ?_⟩
                            rcases q563 with ⟨a566, a567, a568, a569⟩ | ⟨a570, a571, a572, a573⟩
                            · have _q : True := trivial
                              refine jx_ld (pc' := 113) (l' := L543) (st' := [.ref 66]) rfl (jl_aloadn gL543_0) ?_
                              refine jx_ar (pc' := 114) (st' := [.ref 66, .ref 66]) rfl rfl rfl rfl ?_
                              refine jr_get (pc' := 117) (i := 15) (v := .int (i32 (op2_509))) rfl rfl (by decide) (rFv_eq (by decide) (show G551 15 = op2_509 from ((hF557.1 15 rfl).trans (e518)))) rfl ?_
                              refine jx_ar (pc' := 118) (st' := [.int (i32 (1)), .int (i32 (op2_509)), .ref 66]) rfl rfl rfl rfl ?_
                              refine jx_sub (pc' := 119) rfl rfl ?_
                              refine jr_put (pc' := 122) (i := 15) (z := (op2_509 - 1)) rfl rfl (by decide) rfl rfl rfl rfl rfl rfl ?_
                              have hW574 : Wk (uG G551 15 ((op2_509 - 1))) A552 := Wk_g hW556 (show (-2147483648 : Int) ≤ (op2_509 - 1) by omega) (show (op2_509 - 1) ≤ (2147483647 : Int) by omega)
                              have hF575 := Fr_g (z := (op2_509 - 1)) (i := 15) hF564 (by decide)
                              refine jx_ld (pc' := 123) (l' := L543) (st' := [.ref 66]) rfl (jl_aloadn gL543_0) ?_
                              refine jx_ar (pc' := 125) (st' := [.int (i32 (7)), .ref 66]) rfl rfl rfl rfl ?_
                              refine jx_ld (pc' := 126) (l' := L543) (st' := [.int (i32 (r506)), .int (i32 (7)), .ref 66]) rfl (jl_iloadn gL543_1) ?_
                              refine jx_ar (pc' := 127) (st' := [.int (i32 (0)), .int (i32 (r506)), .int (i32 (7)), .ref 66]) rfl rfl rfl rfl ?_
                              refine jx_ar (pc' := 128) (st' := [.int (i32 (0)), .int (i32 (0)), .int (i32 (r506)), .int (i32 (7)), .ref 66]) rfl rfl rfl rfl ?_
                              refine jx_ar (pc' := 129) (st' := [.int (i32 (0)), .int (i32 (0)), .int (i32 (0)), .int (i32 (r506)), .int (i32 (7)), .ref 66]) rfl rfl rfl rfl ?_
                              refine jx_vr (pc' := 132) (as := [.int (i32 (7)), .int (i32 (r506)), .int (i32 (0)), .int (i32 (0)), .int (i32 (0))]) (st := []) rfl rfl rfl rfl ⟨rfl, rfl, Nat.le_of_ble_eq_true rfl⟩ rfl rfl (c_node (dd := d) (hd := by omega) (hW := hW574) (kind := 7) (a := r506) (b := 0) (c := 0) (e := 0) (nd := nd2_510) (e_nd := show (uG G551 15 ((op2_509 - 1))) 31 = nd2_510 from ((hF557.1 31 rfl).trans (e519)))  (h_kind := ⟨(by decide), (by decide)⟩) (h_a := ⟨(Int.le_trans (by decide : (-2147483648 : Int) ≤ -2147483648) b515.1), (Int.le_trans b515.2 (by decide : (2147483647 : Int) ≤ 2147483647))⟩) (h_b := ⟨(by decide), (by decide)⟩) (h_c := ⟨(by decide), (by decide)⟩) (h_e := ⟨(by decide), (by decide)⟩)  (p_0 := by omega) (p_1 := by omega)) (fun o V' hq => ?_)
                              obtain ⟨G576, A577, nd2_578, rfl, rfl, hW579, hF580, hQ581, e582, p583, p584, -⟩ := hq
                              have hF586 := Fr_tr hF575 hF580 (Fr_sub (by decide)) (Fr_sub (by decide))
                              have hP587 := Pf_tr hP565 hQ581 (by omega)
                              have bnd2_578 : (0 : Int) ≤ nd2_578 ∧ nd2_578 ≤ 6999 := e582 ▸ hW579.1 31
                              refine .inr ⟨_, rfl, ?_⟩
                              refine jx_rt (v := some (.int (i32 (nd2_510)))) rfl rfl rfl rfl rfl rfl ?_
                              have z588 := tz_f (tk2_554)
                              exact ⟨_, _, _, at2_553, fk2_555, (op2_509 - 1), nd2_578, tk2_554, rfl, rfl, hW579, hF586, hP587, by omega, ((hF580.1 10 rfl).trans (e558)), ((hF580.1 16 rfl).trans (e560)), (hF580.1 15 rfl), (e582), ((hF580.1 11 rfl).trans (e559)), by omega, by omega, by omega, by omega, by omega, by omega, by first | exact Or.inr (Or.inl (⟨by omega, by omega, by omega⟩))⟩
                            · have _q : True := trivial
                              exfalso
                              omega
                          · have _q : True := trivial
                            refine jx_vr (pc' := 112) (as := [.int (i32 (0))]) (st := []) rfl rfl rfl rfl ⟨rfl, rfl, Nat.le_of_ble_eq_true rfl⟩ rfl rfl (c_need (dd := d) (hd := by omega) (hW := hW512) (g := 0) (ln := ln) (e_ln := show G504 9 = ln from ((hF513.1 9 rfl).trans ((hF487.1 9 rfl).trans ((hF324.1 9 rfl).trans (e_ln))))) (le := le) (e_le := show A505 4 (ln).toNat = le from (congrFun ((hF513.2 4 rfl).trans ((hF487.2 4 rfl).trans (hF324.2 4 rfl))) _).trans (e_le)) (at0 := at2_507) (e_at0 := show G504 10 = at2_507 from (e516)) (fk := fk2_508) (e_fk := show G504 16 = fk2_508 from (e517)) (tk0 := tk2_511) (e_tk0 := show G504 11 = tk2_511 from (e520))  (h_g := ⟨(by decide), (by decide)⟩)  (p_0 := by omega)) (fun o V' hq => ?_)
                            obtain ⟨G589, A590, at2_591, tk2_592, fk2_593, rfl, rfl, hW594, hF595, e596, e597, e598, p599, p600, q601⟩ := hq
                            have hF602 := Fr_tr hF528 hF595 (Fr_sub (by decide)) (Fr_sub (by decide))
                            have hP603 := Pf_f hP529 hF595 (by decide)
                            have bat2_591 : (0 : Int) ≤ at2_591 ∧ at2_591 ≤ 3002 := e596 ▸ hW594.1 10
                            have ztk2_592 := tz_b tk2_592
                            have btk2_592 : (0 : Int) ≤ tk2_592 ∧ tk2_592 ≤ 5 := e597 ▸ hW594.1 11
                            have bfk2_593 : (0 : Int) ≤ fk2_593 ∧ fk2_593 ≤ 6 := e598 ▸ hW594.1 16
                            refine .inl ⟨rfl, ?_⟩
                            rcases q601 with ⟨a604, a605, a606, a607⟩ | ⟨a608, a609, a610, a611⟩
                            · have _q : True := trivial
                              refine jx_ld (pc' := 113) (l' := L543) (st' := [.ref 66]) rfl (jl_aloadn gL543_0) ?_
                              refine jx_ar (pc' := 114) (st' := [.ref 66, .ref 66]) rfl rfl rfl rfl ?_
                              refine jr_get (pc' := 117) (i := 15) (v := .int (i32 (op2_509))) rfl rfl (by decide) (rFv_eq (by decide) (show G589 15 = op2_509 from ((hF595.1 15 rfl).trans (e518)))) rfl ?_
                              refine jx_ar (pc' := 118) (st' := [.int (i32 (1)), .int (i32 (op2_509)), .ref 66]) rfl rfl rfl rfl ?_
                              refine jx_sub (pc' := 119) rfl rfl ?_
                              refine jr_put (pc' := 122) (i := 15) (z := (op2_509 - 1)) rfl rfl (by decide) rfl rfl rfl rfl rfl rfl ?_
                              have hW612 : Wk (uG G589 15 ((op2_509 - 1))) A590 := Wk_g hW594 (show (-2147483648 : Int) ≤ (op2_509 - 1) by omega) (show (op2_509 - 1) ≤ (2147483647 : Int) by omega)
                              have hF613 := Fr_g (z := (op2_509 - 1)) (i := 15) hF602 (by decide)
                              refine jx_ld (pc' := 123) (l' := L543) (st' := [.ref 66]) rfl (jl_aloadn gL543_0) ?_
                              refine jx_ar (pc' := 125) (st' := [.int (i32 (7)), .ref 66]) rfl rfl rfl rfl ?_
                              refine jx_ld (pc' := 126) (l' := L543) (st' := [.int (i32 (r506)), .int (i32 (7)), .ref 66]) rfl (jl_iloadn gL543_1) ?_
                              refine jx_ar (pc' := 127) (st' := [.int (i32 (0)), .int (i32 (r506)), .int (i32 (7)), .ref 66]) rfl rfl rfl rfl ?_
                              refine jx_ar (pc' := 128) (st' := [.int (i32 (0)), .int (i32 (0)), .int (i32 (r506)), .int (i32 (7)), .ref 66]) rfl rfl rfl rfl ?_
                              refine jx_ar (pc' := 129) (st' := [.int (i32 (0)), .int (i32 (0)), .int (i32 (0)), .int (i32 (r506)), .int (i32 (7)), .ref 66]) rfl rfl rfl rfl ?_
                              refine jx_vr (pc' := 132) (as := [.int (i32 (7)), .int (i32 (r506)), .int (i32 (0)), .int (i32 (0)), .int (i32 (0))]) (st := []) rfl rfl rfl rfl ⟨rfl, rfl, Nat.le_of_ble_eq_true rfl⟩ rfl rfl (c_node (dd := d) (hd := by omega) (hW := hW612) (kind := 7) (a := r506) (b := 0) (c := 0) (e := 0) (nd := nd2_510) (e_nd := show (uG G589 15 ((op2_509 - 1))) 31 = nd2_510 from ((hF595.1 31 rfl).trans (e519)))  (h_kind := ⟨(by decide), (by decide)⟩) (h_a := ⟨(Int.le_trans (by decide : (-2147483648 : Int) ≤ -2147483648) b515.1), (Int.le_trans b515.2 (by decide : (2147483647 : Int) ≤ 2147483647))⟩) (h_b := ⟨(by decide), (by decide)⟩) (h_c := ⟨(by decide), (by decide)⟩) (h_e := ⟨(by decide), (by decide)⟩)  (p_0 := by omega) (p_1 := by omega)) (fun o V' hq => ?_)
                              obtain ⟨G614, A615, nd2_616, rfl, rfl, hW617, hF618, hQ619, e620, p621, p622, -⟩ := hq
                              have hF624 := Fr_tr hF613 hF618 (Fr_sub (by decide)) (Fr_sub (by decide))
                              have hP625 := Pf_tr hP603 hQ619 (by omega)
                              have bnd2_616 : (0 : Int) ≤ nd2_616 ∧ nd2_616 ≤ 6999 := e620 ▸ hW617.1 31
                              refine .inr ⟨_, rfl, ?_⟩
                              refine jx_rt (v := some (.int (i32 (nd2_510)))) rfl rfl rfl rfl rfl rfl ?_
                              have z626 := tz_f (tk2_592)
                              exact ⟨_, _, _, at2_591, fk2_593, (op2_509 - 1), nd2_616, tk2_592, rfl, rfl, hW617, hF624, hP625, by omega, ((hF618.1 10 rfl).trans (e596)), ((hF618.1 16 rfl).trans (e598)), (hF618.1 15 rfl), (e620), ((hF618.1 11 rfl).trans (e597)), by omega, by omega, by omega, by omega, by omega, by omega, by first | exact Or.inr (Or.inl (⟨by omega, by omega, by omega⟩))⟩
                            · have _q : True := trivial
                              exfalso
                              omega
                        · have _q : True := trivial
                          exfalso
                          omega
                        · have _q : True := trivial
                          exfalso
                          omega
                      · have _q : True := trivial
                        refine jx_ld (pc' := 98) (l' := [(0, .ref 66)]) (st' := [.ref 66]) rfl (jl_aloadn rfl) ?_
                        refine jx_vr (pc' := 101) (as := []) (st := []) rfl rfl rfl rfl ⟨rfl, rfl, Nat.le_of_ble_eq_true rfl⟩ rfl rfl (hE (dd := d) (hd := by omega) (hW := hW486)  (ln := ln) (e_ln := show G481 9 = ln from ((hF487.1 9 rfl).trans ((hF324.1 9 rfl).trans (e_ln)))) (le := le) (e_le := show A482 4 (ln).toNat = le from (congrFun ((hF487.2 4 rfl).trans (hF324.2 4 rfl)) _).trans (e_le)) (at0 := at2_483) (e_at0 := show G481 10 = at2_483 from (e488)) (fk := fk2_485) (e_fk := show G481 16 = fk2_485 from (e490)) (op0 := op2_322) (e_op0 := show G481 15 = op2_322 from ((hF487.1 15 rfl).trans (e326))) (nd := nd) (e_nd := show G481 31 = nd from ((hF487.1 31 rfl).trans ((hF324.1 31 rfl).trans (e_nd)))) (tk0 := tk2_484) (e_tk0 := show G481 11 = tk2_484 from (e489)) (i_SV := (SV_ext (((hF487.1 29 rfl).trans (hF324.1 29 rfl))) (((hF487.2 14 rfl).trans (hF324.2 14 rfl))) i_SV))   (p_0 := by omega) (p_1 := by omega) (p_2 := by omega) (p_3 := by omega) (p_4 := by omega) (p_5 := by omega)) (fun o V' hq => ?_)
                        obtain ⟨G627, A628, r629, at2_630, fk2_631, op2_632, nd2_633, tk2_634, rfl, rfl, hW635, hF636, hQ637, b638, e639, e640, e641, e642, e643, p644, p645, p646, p647, p648, p649, q650⟩ := hq
                        have hF651 := Fr_tr hF494 hF636 (Fr_sub (by decide)) (Fr_sub (by decide))
                        have hP652 := Pf_tr hP495 hQ637 (by omega)
                        have bat2_630 : (0 : Int) ≤ at2_630 ∧ at2_630 ≤ 3002 := e639 ▸ hW635.1 10
                        have bfk2_631 : (0 : Int) ≤ fk2_631 ∧ fk2_631 ≤ 6 := e640 ▸ hW635.1 16
                        have bop2_632 : (-2147483648 : Int) ≤ op2_632 ∧ op2_632 ≤ 2147483647 := e641 ▸ hW635.1 15
                        have bnd2_633 : (0 : Int) ≤ nd2_633 ∧ nd2_633 ≤ 6999 := e642 ▸ hW635.1 31
                        have ztk2_634 := tz_b tk2_634
                        have btk2_634 : (0 : Int) ≤ tk2_634 ∧ tk2_634 ≤ 5 := e643 ▸ hW635.1 11
                        refine .inr ⟨_, rfl, ?_⟩
                        rcases q650 with ⟨a653, a654, a655, a656, a657, a658⟩ | ⟨a659, a660, a661⟩ | ⟨a662, a663, a664, a665⟩
                        · have _q : True := trivial
                          exfalso
                          omega
                        · have _q : True := trivial
                          refine jx_ld (pc' := 102) (l' := jSto1 [(0, .ref 66)] 1 (.int (i32 (r629)))) (st' := []) rfl rfl ?_
                          obtain ⟨L666, eL666⟩ : ∃ q, q = jSto1 [(0, .ref 66)] 1 (.int (i32 (r629))) := ⟨_, rfl⟩
                          rw [← eL666]
                          have gL666_0 : jGet L666 0 = some (.ref 66) := eL666 ▸ jg_ne (by decide) (rfl : jGet [(0, .ref 66)] 0 = some (.ref 66)) rfl
                          have gL666_1 : jGet L666 1 = some (.int (i32 (r629))) := eL666 ▸ jg_eq
                          refine jx_ld (pc' := 103) (l' := L666) (st' := [.ref 66]) rfl (jl_aloadn gL666_0) ?_
                          refine jx_ld (pc' := 104) (l' := L666) (st' := [.ref 66, .ref 66]) rfl (jl_aloadn gL666_0) ?_
                          refine jx_ar (pc' := 106) (st' := [.int (i32 (41)), .ref 66, .ref 66]) rfl rfl rfl rfl ?_
                          have b667 : (-2147483648 : Int) ≤ G627 13 ∧ G627 13 ≤ 2147483647 := hW635.1 13
                          refine jx_vr (pc' := 109) (as := [.int (i32 (41))]) (st := [.ref 66]) rfl rfl rfl rfl ⟨rfl, rfl, Nat.le_of_ble_eq_true rfl⟩ rfl rfl (c_is (dd := d) (hd := by omega) (hW := hW635) (k := 41) (tk := tk2_634) (e_tk := show G627 11 = tk2_634 from (e643)) (tn := G627 13) (e_tn := show G627 13 = G627 13 from rfl)  (h_k := ⟨(by decide), (by decide)⟩)  ) (fun o V' hq => ?_)
                          obtain ⟨r668, rfl, rfl, b669, q670⟩ := hq
                          refine .inr ⟨_, rfl, ?_⟩
                          rcases q670 with ⟨rfl, a671, a672, a673⟩ | rfl
                          · have _q : True := trivial
                            refine jx_vr (pc' := 112) (as := [.int (i32 (1))]) (st := []) rfl rfl rfl rfl ⟨rfl, rfl, Nat.le_of_ble_eq_true rfl⟩ rfl rfl (c_need (dd := d) (hd := by omega) (hW := hW635) (g := 1) (ln := ln) (e_ln := show G627 9 = ln from ((hF636.1 9 rfl).trans ((hF487.1 9 rfl).trans ((hF324.1 9 rfl).trans (e_ln))))) (le := le) (e_le := show A628 4 (ln).toNat = le from (congrFun ((hF636.2 4 rfl).trans ((hF487.2 4 rfl).trans (hF324.2 4 rfl))) _).trans (e_le)) (at0 := at2_630) (e_at0 := show G627 10 = at2_630 from (e639)) (fk := fk2_631) (e_fk := show G627 16 = fk2_631 from (e640)) (tk0 := tk2_634) (e_tk0 := show G627 11 = tk2_634 from (e643))  (h_g := ⟨(by decide), (by decide)⟩)  (p_0 := by omega)) (fun o V' hq => ?_)
                            obtain ⟨G674, A675, at2_676, tk2_677, fk2_678, rfl, rfl, hW679, hF680, e681, e682, e683, p684, p685, q686⟩ := hq
                            have hF687 := Fr_tr hF651 hF680 (Fr_sub (by decide)) (Fr_sub (by decide))
                            have hP688 := Pf_f hP652 hF680 (by decide)
                            have bat2_676 : (0 : Int) ≤ at2_676 ∧ at2_676 ≤ 3002 := e681 ▸ hW679.1 10
                            have ztk2_677 := tz_b tk2_677
                            have btk2_677 : (0 : Int) ≤ tk2_677 ∧ tk2_677 ≤ 5 := e682 ▸ hW679.1 11
                            have bfk2_678 : (0 : Int) ≤ fk2_678 ∧ fk2_678 ≤ 6 := e683 ▸ hW679.1 16
                            refine .inl ⟨rfl, ?_⟩
                            rcases q686 with ⟨a689, a690, a691, a692⟩ | ⟨a693, a694, a695, a696⟩
                            · have _q : True := trivial
                              refine jx_ld (pc' := 113) (l' := L666) (st' := [.ref 66]) rfl (jl_aloadn gL666_0) ?_
                              refine jx_ar (pc' := 114) (st' := [.ref 66, .ref 66]) rfl rfl rfl rfl ?_
                              refine jr_get (pc' := 117) (i := 15) (v := .int (i32 (op2_632))) rfl rfl (by decide) (rFv_eq (by decide) (show G674 15 = op2_632 from ((hF680.1 15 rfl).trans (e641)))) rfl ?_
                              refine jx_ar (pc' := 118) (st' := [.int (i32 (1)), .int (i32 (op2_632)), .ref 66]) rfl rfl rfl rfl ?_
                              refine jx_sub (pc' := 119) rfl rfl ?_
                              refine jr_put (pc' := 122) (i := 15) (z := (op2_632 - 1)) rfl rfl (by decide) rfl rfl rfl rfl rfl rfl ?_
                              have hW697 : Wk (uG G674 15 ((op2_632 - 1))) A675 := Wk_g hW679 (show (-2147483648 : Int) ≤ (op2_632 - 1) by omega) (show (op2_632 - 1) ≤ (2147483647 : Int) by omega)
                              have hF698 := Fr_g (z := (op2_632 - 1)) (i := 15) hF687 (by decide)
                              refine jx_ld (pc' := 123) (l' := L666) (st' := [.ref 66]) rfl (jl_aloadn gL666_0) ?_
                              refine jx_ar (pc' := 125) (st' := [.int (i32 (7)), .ref 66]) rfl rfl rfl rfl ?_
                              refine jx_ld (pc' := 126) (l' := L666) (st' := [.int (i32 (r629)), .int (i32 (7)), .ref 66]) rfl (jl_iloadn gL666_1) ?_
                              refine jx_ar (pc' := 127) (st' := [.int (i32 (0)), .int (i32 (r629)), .int (i32 (7)), .ref 66]) rfl rfl rfl rfl ?_
                              refine jx_ar (pc' := 128) (st' := [.int (i32 (0)), .int (i32 (0)), .int (i32 (r629)), .int (i32 (7)), .ref 66]) rfl rfl rfl rfl ?_
                              refine jx_ar (pc' := 129) (st' := [.int (i32 (0)), .int (i32 (0)), .int (i32 (0)), .int (i32 (r629)), .int (i32 (7)), .ref 66]) rfl rfl rfl rfl ?_
                              refine jx_vr (pc' := 132) (as := [.int (i32 (7)), .int (i32 (r629)), .int (i32 (0)), .int (i32 (0)), .int (i32 (0))]) (st := []) rfl rfl rfl rfl ⟨rfl, rfl, Nat.le_of_ble_eq_true rfl⟩ rfl rfl (c_node (dd := d) (hd := by omega) (hW := hW697) (kind := 7) (a := r629) (b := 0) (c := 0) (e := 0) (nd := nd2_633) (e_nd := show (uG G674 15 ((op2_632 - 1))) 31 = nd2_633 from ((hF680.1 31 rfl).trans (e642)))  (h_kind := ⟨(by decide), (by decide)⟩) (h_a := ⟨(Int.le_trans (by decide : (-2147483648 : Int) ≤ -2147483648) b638.1), (Int.le_trans b638.2 (by decide : (2147483647 : Int) ≤ 2147483647))⟩) (h_b := ⟨(by decide), (by decide)⟩) (h_c := ⟨(by decide), (by decide)⟩) (h_e := ⟨(by decide), (by decide)⟩)  (p_0 := by omega) (p_1 := by omega)) (fun o V' hq => ?_)
                              obtain ⟨G699, A700, nd2_701, rfl, rfl, hW702, hF703, hQ704, e705, p706, p707, -⟩ := hq
                              have hF709 := Fr_tr hF698 hF703 (Fr_sub (by decide)) (Fr_sub (by decide))
                              have hP710 := Pf_tr hP688 hQ704 (by omega)
                              have bnd2_701 : (0 : Int) ≤ nd2_701 ∧ nd2_701 ≤ 6999 := e705 ▸ hW702.1 31
                              refine .inr ⟨_, rfl, ?_⟩
                              refine jx_rt (v := some (.int (i32 (nd2_633)))) rfl rfl rfl rfl rfl rfl ?_
                              have z711 := tz_f (tk2_677)
                              exact ⟨_, _, _, at2_676, fk2_678, (op2_632 - 1), nd2_701, tk2_677, rfl, rfl, hW702, hF709, hP710, by omega, ((hF703.1 10 rfl).trans (e681)), ((hF703.1 16 rfl).trans (e683)), (hF703.1 15 rfl), (e705), ((hF703.1 11 rfl).trans (e682)), by omega, by omega, by omega, by omega, by omega, by omega, by first | exact Or.inr (Or.inl (⟨by omega, by omega, by omega⟩))⟩
                            · have _q : True := trivial
                              exfalso
                              omega
                          · have _q : True := trivial
                            refine jx_vr (pc' := 112) (as := [.int (i32 (0))]) (st := []) rfl rfl rfl rfl ⟨rfl, rfl, Nat.le_of_ble_eq_true rfl⟩ rfl rfl (c_need (dd := d) (hd := by omega) (hW := hW635) (g := 0) (ln := ln) (e_ln := show G627 9 = ln from ((hF636.1 9 rfl).trans ((hF487.1 9 rfl).trans ((hF324.1 9 rfl).trans (e_ln))))) (le := le) (e_le := show A628 4 (ln).toNat = le from (congrFun ((hF636.2 4 rfl).trans ((hF487.2 4 rfl).trans (hF324.2 4 rfl))) _).trans (e_le)) (at0 := at2_630) (e_at0 := show G627 10 = at2_630 from (e639)) (fk := fk2_631) (e_fk := show G627 16 = fk2_631 from (e640)) (tk0 := tk2_634) (e_tk0 := show G627 11 = tk2_634 from (e643))  (h_g := ⟨(by decide), (by decide)⟩)  (p_0 := by omega)) (fun o V' hq => ?_)
                            obtain ⟨G712, A713, at2_714, tk2_715, fk2_716, rfl, rfl, hW717, hF718, e719, e720, e721, p722, p723, q724⟩ := hq
                            have hF725 := Fr_tr hF651 hF718 (Fr_sub (by decide)) (Fr_sub (by decide))
                            have hP726 := Pf_f hP652 hF718 (by decide)
                            have bat2_714 : (0 : Int) ≤ at2_714 ∧ at2_714 ≤ 3002 := e719 ▸ hW717.1 10
                            have ztk2_715 := tz_b tk2_715
                            have btk2_715 : (0 : Int) ≤ tk2_715 ∧ tk2_715 ≤ 5 := e720 ▸ hW717.1 11
                            have bfk2_716 : (0 : Int) ≤ fk2_716 ∧ fk2_716 ≤ 6 := e721 ▸ hW717.1 16
                            refine .inl ⟨rfl, ?_⟩
                            rcases q724 with ⟨a727, a728, a729, a730⟩ | ⟨a731, a732, a733, a734⟩
                            · have _q : True := trivial
                              refine jx_ld (pc' := 113) (l' := L666) (st' := [.ref 66]) rfl (jl_aloadn gL666_0) ?_
                              refine jx_ar (pc' := 114) (st' := [.ref 66, .ref 66]) rfl rfl rfl rfl ?_
                              refine jr_get (pc' := 117) (i := 15) (v := .int (i32 (op2_632))) rfl rfl (by decide) (rFv_eq (by decide) (show G712 15 = op2_632 from ((hF718.1 15 rfl).trans (e641)))) rfl ?_
                              refine jx_ar (pc' := 118) (st' := [.int (i32 (1)), .int (i32 (op2_632)), .ref 66]) rfl rfl rfl rfl ?_
                              refine jx_sub (pc' := 119) rfl rfl ?_
                              refine jr_put (pc' := 122) (i := 15) (z := (op2_632 - 1)) rfl rfl (by decide) rfl rfl rfl rfl rfl rfl ?_
                              have hW735 : Wk (uG G712 15 ((op2_632 - 1))) A713 := Wk_g hW717 (show (-2147483648 : Int) ≤ (op2_632 - 1) by omega) (show (op2_632 - 1) ≤ (2147483647 : Int) by omega)
                              have hF736 := Fr_g (z := (op2_632 - 1)) (i := 15) hF725 (by decide)
                              refine jx_ld (pc' := 123) (l' := L666) (st' := [.ref 66]) rfl (jl_aloadn gL666_0) ?_
                              refine jx_ar (pc' := 125) (st' := [.int (i32 (7)), .ref 66]) rfl rfl rfl rfl ?_
                              refine jx_ld (pc' := 126) (l' := L666) (st' := [.int (i32 (r629)), .int (i32 (7)), .ref 66]) rfl (jl_iloadn gL666_1) ?_
                              refine jx_ar (pc' := 127) (st' := [.int (i32 (0)), .int (i32 (r629)), .int (i32 (7)), .ref 66]) rfl rfl rfl rfl ?_
                              refine jx_ar (pc' := 128) (st' := [.int (i32 (0)), .int (i32 (0)), .int (i32 (r629)), .int (i32 (7)), .ref 66]) rfl rfl rfl rfl ?_
                              refine jx_ar (pc' := 129) (st' := [.int (i32 (0)), .int (i32 (0)), .int (i32 (0)), .int (i32 (r629)), .int (i32 (7)), .ref 66]) rfl rfl rfl rfl ?_
                              refine jx_vr (pc' := 132) (as := [.int (i32 (7)), .int (i32 (r629)), .int (i32 (0)), .int (i32 (0)), .int (i32 (0))]) (st := []) rfl rfl rfl rfl ⟨rfl, rfl, Nat.le_of_ble_eq_true rfl⟩ rfl rfl (c_node (dd := d) (hd := by omega) (hW := hW735) (kind := 7) (a := r629) (b := 0) (c := 0) (e := 0) (nd := nd2_633) (e_nd := show (uG G712 15 ((op2_632 - 1))) 31 = nd2_633 from ((hF718.1 31 rfl).trans (e642)))  (h_kind := ⟨(by decide), (by decide)⟩) (h_a := ⟨(Int.le_trans (by decide : (-2147483648 : Int) ≤ -2147483648) b638.1), (Int.le_trans b638.2 (by decide : (2147483647 : Int) ≤ 2147483647))⟩) (h_b := ⟨(by decide), (by decide)⟩) (h_c := ⟨(by decide), (by decide)⟩) (h_e := ⟨(by decide), (by decide)⟩)  (p_0 := by omega) (p_1 := by omega)) (fun o V' hq => ?_)
                              obtain ⟨G737, A738, nd2_739, rfl, rfl, hW740, hF741, hQ742, e743, p744, p745, -⟩ := hq
                              have hF747 := Fr_tr hF736 hF741 (Fr_sub (by decide)) (Fr_sub (by decide))
                              have hP748 := Pf_tr hP726 hQ742 (by omega)
                              have bnd2_739 : (0 : Int) ≤ nd2_739 ∧ nd2_739 ≤ 6999 := e743 ▸ hW740.1 31
                              refine .inr ⟨_, rfl, ?_⟩
                              refine jx_rt (v := some (.int (i32 (nd2_633)))) rfl rfl rfl rfl rfl rfl ?_
                              have z749 := tz_f (tk2_715)
                              exact ⟨_, _, _, at2_714, fk2_716, (op2_632 - 1), nd2_739, tk2_715, rfl, rfl, hW740, hF747, hP748, by omega, ((hF741.1 10 rfl).trans (e719)), ((hF741.1 16 rfl).trans (e721)), (hF741.1 15 rfl), (e743), ((hF741.1 11 rfl).trans (e720)), by omega, by omega, by omega, by omega, by omega, by omega, by first | exact Or.inr (Or.inl (⟨by omega, by omega, by omega⟩))⟩
                            · have _q : True := trivial
                              exfalso
                              omega
                        · have _q : True := trivial
                          refine jx_ld (pc' := 102) (l' := jSto1 [(0, .ref 66)] 1 (.int (i32 (r629)))) (st' := []) rfl rfl ?_
                          obtain ⟨L750, eL750⟩ : ∃ q, q = jSto1 [(0, .ref 66)] 1 (.int (i32 (r629))) := ⟨_, rfl⟩
                          rw [← eL750]
                          have gL750_0 : jGet L750 0 = some (.ref 66) := eL750 ▸ jg_ne (by decide) (rfl : jGet [(0, .ref 66)] 0 = some (.ref 66)) rfl
                          have gL750_1 : jGet L750 1 = some (.int (i32 (r629))) := eL750 ▸ jg_eq
                          refine jx_ld (pc' := 103) (l' := L750) (st' := [.ref 66]) rfl (jl_aloadn gL750_0) ?_
                          refine jx_ld (pc' := 104) (l' := L750) (st' := [.ref 66, .ref 66]) rfl (jl_aloadn gL750_0) ?_
                          refine jx_ar (pc' := 106) (st' := [.int (i32 (41)), .ref 66, .ref 66]) rfl rfl rfl rfl ?_
                          have b751 : (-2147483648 : Int) ≤ G627 13 ∧ G627 13 ≤ 2147483647 := hW635.1 13
                          refine jx_vr (pc' := 109) (as := [.int (i32 (41))]) (st := [.ref 66]) rfl rfl rfl rfl ⟨rfl, rfl, Nat.le_of_ble_eq_true rfl⟩ rfl rfl (c_is (dd := d) (hd := by omega) (hW := hW635) (k := 41) (tk := tk2_634) (e_tk := show G627 11 = tk2_634 from (e643)) (tn := G627 13) (e_tn := show G627 13 = G627 13 from rfl)  (h_k := ⟨(by decide), (by decide)⟩)  ) (fun o V' hq => ?_)
                          obtain ⟨r752, rfl, rfl, b753, q754⟩ := hq
                          refine .inr ⟨_, rfl, ?_⟩
                          rcases q754 with ⟨rfl, a755, a756, a757⟩ | rfl
                          · have _q : True := trivial
                            refine jx_vr (pc' := 112) (as := [.int (i32 (1))]) (st := []) rfl rfl rfl rfl ⟨rfl, rfl, Nat.le_of_ble_eq_true rfl⟩ rfl rfl (c_need (dd := d) (hd := by omega) (hW := hW635) (g := 1) (ln := ln) (e_ln := show G627 9 = ln from ((hF636.1 9 rfl).trans ((hF487.1 9 rfl).trans ((hF324.1 9 rfl).trans (e_ln))))) (le := le) (e_le := show A628 4 (ln).toNat = le from (congrFun ((hF636.2 4 rfl).trans ((hF487.2 4 rfl).trans (hF324.2 4 rfl))) _).trans (e_le)) (at0 := at2_630) (e_at0 := show G627 10 = at2_630 from (e639)) (fk := fk2_631) (e_fk := show G627 16 = fk2_631 from (e640)) (tk0 := tk2_634) (e_tk0 := show G627 11 = tk2_634 from (e643))  (h_g := ⟨(by decide), (by decide)⟩)  (p_0 := by omega)) (fun o V' hq => ?_)
                            obtain ⟨G758, A759, at2_760, tk2_761, fk2_762, rfl, rfl, hW763, hF764, e765, e766, e767, p768, p769, q770⟩ := hq
                            have hF771 := Fr_tr hF651 hF764 (Fr_sub (by decide)) (Fr_sub (by decide))
                            have hP772 := Pf_f hP652 hF764 (by decide)
                            have sf773 : wE A759 Vs sb (2 * k + 2) (r629) (nd) (nd2_633) := wE_ag (by omega) (Sg_fr hF764 (by decide)) (Ag_fr hF764 (by decide)) a665
                            have bat2_760 : (0 : Int) ≤ at2_760 ∧ at2_760 ≤ 3002 := e765 ▸ hW763.1 10
                            have ztk2_761 := tz_b tk2_761
                            have btk2_761 : (0 : Int) ≤ tk2_761 ∧ tk2_761 ≤ 5 := e766 ▸ hW763.1 11
                            have bfk2_762 : (0 : Int) ≤ fk2_762 ∧ fk2_762 ≤ 6 := e767 ▸ hW763.1 16
                            refine .inl ⟨rfl, ?_⟩
                            rcases q770 with ⟨a774, a775, a776, a777⟩ | ⟨a778, a779, a780, a781⟩
                            · have _q : True := trivial
                              refine jx_ld (pc' := 113) (l' := L750) (st' := [.ref 66]) rfl (jl_aloadn gL750_0) ?_
                              refine jx_ar (pc' := 114) (st' := [.ref 66, .ref 66]) rfl rfl rfl rfl ?_
                              refine jr_get (pc' := 117) (i := 15) (v := .int (i32 (op2_632))) rfl rfl (by decide) (rFv_eq (by decide) (show G758 15 = op2_632 from ((hF764.1 15 rfl).trans (e641)))) rfl ?_
                              refine jx_ar (pc' := 118) (st' := [.int (i32 (1)), .int (i32 (op2_632)), .ref 66]) rfl rfl rfl rfl ?_
                              refine jx_sub (pc' := 119) rfl rfl ?_
                              refine jr_put (pc' := 122) (i := 15) (z := (op2_632 - 1)) rfl rfl (by decide) rfl rfl rfl rfl rfl rfl ?_
                              have hW782 : Wk (uG G758 15 ((op2_632 - 1))) A759 := Wk_g hW763 (show (-2147483648 : Int) ≤ (op2_632 - 1) by omega) (show (op2_632 - 1) ≤ (2147483647 : Int) by omega)
                              have hF783 := Fr_g (z := (op2_632 - 1)) (i := 15) hF771 (by decide)
                              refine jx_ld (pc' := 123) (l' := L750) (st' := [.ref 66]) rfl (jl_aloadn gL750_0) ?_
                              refine jx_ar (pc' := 125) (st' := [.int (i32 (7)), .ref 66]) rfl rfl rfl rfl ?_
                              refine jx_ld (pc' := 126) (l' := L750) (st' := [.int (i32 (r629)), .int (i32 (7)), .ref 66]) rfl (jl_iloadn gL750_1) ?_
                              refine jx_ar (pc' := 127) (st' := [.int (i32 (0)), .int (i32 (r629)), .int (i32 (7)), .ref 66]) rfl rfl rfl rfl ?_
                              refine jx_ar (pc' := 128) (st' := [.int (i32 (0)), .int (i32 (0)), .int (i32 (r629)), .int (i32 (7)), .ref 66]) rfl rfl rfl rfl ?_
                              refine jx_ar (pc' := 129) (st' := [.int (i32 (0)), .int (i32 (0)), .int (i32 (0)), .int (i32 (r629)), .int (i32 (7)), .ref 66]) rfl rfl rfl rfl ?_
                              refine jx_vr (pc' := 132) (as := [.int (i32 (7)), .int (i32 (r629)), .int (i32 (0)), .int (i32 (0)), .int (i32 (0))]) (st := []) rfl rfl rfl rfl ⟨rfl, rfl, Nat.le_of_ble_eq_true rfl⟩ rfl rfl (c_node (dd := d) (hd := by omega) (hW := hW782) (kind := 7) (a := r629) (b := 0) (c := 0) (e := 0) (nd := nd2_633) (e_nd := show (uG G758 15 ((op2_632 - 1))) 31 = nd2_633 from ((hF764.1 31 rfl).trans (e642)))  (h_kind := ⟨(by decide), (by decide)⟩) (h_a := ⟨(Int.le_trans (by decide : (-2147483648 : Int) ≤ -2147483648) b638.1), (Int.le_trans b638.2 (by decide : (2147483647 : Int) ≤ 2147483647))⟩) (h_b := ⟨(by decide), (by decide)⟩) (h_c := ⟨(by decide), (by decide)⟩) (h_e := ⟨(by decide), (by decide)⟩)  (p_0 := by omega) (p_1 := by omega)) (fun o V' hq => ?_)
                              obtain ⟨G784, A785, nd2_786, rfl, rfl, hW787, hF788, hQ789, e790, p791, p792, -⟩ := hq
                              have hF794 := Fr_tr hF783 hF788 (Fr_sub (by decide)) (Fr_sub (by decide))
                              have hP795 := Pf_tr hP772 hQ789 (by omega)
                              have sf796 : wE A785 Vs sb (2 * k + 2) (r629) (nd) (nd2_633) := wE_ag (by omega) (Sg_fr hF788 (by decide)) (Ag_pf hQ789 (by omega)) sf773
                              have bnd2_786 : (0 : Int) ≤ nd2_786 ∧ nd2_786 ≤ 6999 := e790 ▸ hW787.1 31
                              refine .inr ⟨_, rfl, ?_⟩
                              refine jx_rt (v := some (.int (i32 (nd2_633)))) rfl rfl rfl rfl rfl rfl ?_
                              have z797 := tz_f (tk2_761)
                              exact ⟨_, _, _, at2_760, fk2_762, (op2_632 - 1), nd2_786, tk2_761, rfl, rfl, hW787, hF794, hP795, by omega, ((hF788.1 10 rfl).trans (e765)), ((hF788.1 16 rfl).trans (e767)), (hF788.1 15 rfl), (e790), ((hF788.1 11 rfl).trans (e766)), by omega, by omega, by omega, by omega, by omega, by omega, by first | exact Or.inr (Or.inl (⟨by omega, by omega, by omega⟩))⟩
                            · have _q : True := trivial
                              refine jx_ld (pc' := 113) (l' := L750) (st' := [.ref 66]) rfl (jl_aloadn gL750_0) ?_
                              refine jx_ar (pc' := 114) (st' := [.ref 66, .ref 66]) rfl rfl rfl rfl ?_
                              refine jr_get (pc' := 117) (i := 15) (v := .int (i32 (op2_632))) rfl rfl (by decide) (rFv_eq (by decide) (show G758 15 = op2_632 from ((hF764.1 15 rfl).trans (e641)))) rfl ?_
                              refine jx_ar (pc' := 118) (st' := [.int (i32 (1)), .int (i32 (op2_632)), .ref 66]) rfl rfl rfl rfl ?_
                              refine jx_sub (pc' := 119) rfl rfl ?_
                              refine jr_put (pc' := 122) (i := 15) (z := (op2_632 - 1)) rfl rfl (by decide) rfl rfl rfl rfl rfl rfl ?_
                              have hW798 : Wk (uG G758 15 ((op2_632 - 1))) A759 := Wk_g hW763 (show (-2147483648 : Int) ≤ (op2_632 - 1) by omega) (show (op2_632 - 1) ≤ (2147483647 : Int) by omega)
                              have hF799 := Fr_g (z := (op2_632 - 1)) (i := 15) hF771 (by decide)
                              refine jx_ld (pc' := 123) (l' := L750) (st' := [.ref 66]) rfl (jl_aloadn gL750_0) ?_
                              refine jx_ar (pc' := 125) (st' := [.int (i32 (7)), .ref 66]) rfl rfl rfl rfl ?_
                              refine jx_ld (pc' := 126) (l' := L750) (st' := [.int (i32 (r629)), .int (i32 (7)), .ref 66]) rfl (jl_iloadn gL750_1) ?_
                              refine jx_ar (pc' := 127) (st' := [.int (i32 (0)), .int (i32 (r629)), .int (i32 (7)), .ref 66]) rfl rfl rfl rfl ?_
                              refine jx_ar (pc' := 128) (st' := [.int (i32 (0)), .int (i32 (0)), .int (i32 (r629)), .int (i32 (7)), .ref 66]) rfl rfl rfl rfl ?_
                              refine jx_ar (pc' := 129) (st' := [.int (i32 (0)), .int (i32 (0)), .int (i32 (0)), .int (i32 (r629)), .int (i32 (7)), .ref 66]) rfl rfl rfl rfl ?_
                              refine jx_vr (pc' := 132) (as := [.int (i32 (7)), .int (i32 (r629)), .int (i32 (0)), .int (i32 (0)), .int (i32 (0))]) (st := []) rfl rfl rfl rfl ⟨rfl, rfl, Nat.le_of_ble_eq_true rfl⟩ rfl rfl (c_node (dd := d) (hd := by omega) (hW := hW798) (kind := 7) (a := r629) (b := 0) (c := 0) (e := 0) (nd := nd2_633) (e_nd := show (uG G758 15 ((op2_632 - 1))) 31 = nd2_633 from ((hF764.1 31 rfl).trans (e642)))  (h_kind := ⟨(by decide), (by decide)⟩) (h_a := ⟨(Int.le_trans (by decide : (-2147483648 : Int) ≤ -2147483648) b638.1), (Int.le_trans b638.2 (by decide : (2147483647 : Int) ≤ 2147483647))⟩) (h_b := ⟨(by decide), (by decide)⟩) (h_c := ⟨(by decide), (by decide)⟩) (h_e := ⟨(by decide), (by decide)⟩)  (p_0 := by omega) (p_1 := by omega)) (fun o V' hq => ?_)
                              obtain ⟨G800, A801, nd2_802, rfl, rfl, hW803, hF804, hQ805, e806, p807, p808, -⟩ := hq
                              have hF810 := Fr_tr hF799 hF804 (Fr_sub (by decide)) (Fr_sub (by decide))
                              have hP811 := Pf_tr hP772 hQ805 (by omega)
                              have sf812 : wE A801 Vs sb (2 * k + 2) (r629) (nd) (nd2_633) := wE_ag (by omega) (Sg_fr hF804 (by decide)) (Ag_pf hQ805 (by omega)) sf773
                              have bnd2_802 : (0 : Int) ≤ nd2_802 ∧ nd2_802 ≤ 6999 := e806 ▸ hW803.1 31
                              refine .inr ⟨_, rfl, ?_⟩
                              refine jx_rt (v := some (.int (i32 (nd2_633)))) rfl rfl rfl rfl rfl rfl ?_
                              have z813 := tz_f (tk2_761)
                              exact ⟨_, _, _, at2_760, fk2_762, (op2_632 - 1), nd2_802, tk2_761, rfl, rfl, hW803, hF810, hP811, by omega, ((hF804.1 10 rfl).trans (e765)), ((hF804.1 16 rfl).trans (e767)), (hF804.1 15 rfl), (e806), ((hF804.1 11 rfl).trans (e766)), by omega, by omega, by omega, by omega, by omega, by omega, by first | exact Or.inr (Or.inr ((⟨by omega, by omega, by omega, (wE_one p808 (by omega) (by omega) (by omega) (wE_mono (by omega) (by omega) (by omega) sf812))⟩)))⟩
                          · have _q : True := trivial
                            refine jx_vr (pc' := 112) (as := [.int (i32 (0))]) (st := []) rfl rfl rfl rfl ⟨rfl, rfl, Nat.le_of_ble_eq_true rfl⟩ rfl rfl (c_need (dd := d) (hd := by omega) (hW := hW635) (g := 0) (ln := ln) (e_ln := show G627 9 = ln from ((hF636.1 9 rfl).trans ((hF487.1 9 rfl).trans ((hF324.1 9 rfl).trans (e_ln))))) (le := le) (e_le := show A628 4 (ln).toNat = le from (congrFun ((hF636.2 4 rfl).trans ((hF487.2 4 rfl).trans (hF324.2 4 rfl))) _).trans (e_le)) (at0 := at2_630) (e_at0 := show G627 10 = at2_630 from (e639)) (fk := fk2_631) (e_fk := show G627 16 = fk2_631 from (e640)) (tk0 := tk2_634) (e_tk0 := show G627 11 = tk2_634 from (e643))  (h_g := ⟨(by decide), (by decide)⟩)  (p_0 := by omega)) (fun o V' hq => ?_)
                            obtain ⟨G814, A815, at2_816, tk2_817, fk2_818, rfl, rfl, hW819, hF820, e821, e822, e823, p824, p825, q826⟩ := hq
                            have hF827 := Fr_tr hF651 hF820 (Fr_sub (by decide)) (Fr_sub (by decide))
                            have hP828 := Pf_f hP652 hF820 (by decide)
                            have sf829 : wE A815 Vs sb (2 * k + 2) (r629) (nd) (nd2_633) := wE_ag (by omega) (Sg_fr hF820 (by decide)) (Ag_fr hF820 (by decide)) a665
                            have bat2_816 : (0 : Int) ≤ at2_816 ∧ at2_816 ≤ 3002 := e821 ▸ hW819.1 10
                            have ztk2_817 := tz_b tk2_817
                            have btk2_817 : (0 : Int) ≤ tk2_817 ∧ tk2_817 ≤ 5 := e822 ▸ hW819.1 11
                            have bfk2_818 : (0 : Int) ≤ fk2_818 ∧ fk2_818 ≤ 6 := e823 ▸ hW819.1 16
                            refine .inl ⟨rfl, ?_⟩
                            rcases q826 with ⟨a830, a831, a832, a833⟩ | ⟨a834, a835, a836, a837⟩
                            · have _q : True := trivial
                              refine jx_ld (pc' := 113) (l' := L750) (st' := [.ref 66]) rfl (jl_aloadn gL750_0) ?_
                              refine jx_ar (pc' := 114) (st' := [.ref 66, .ref 66]) rfl rfl rfl rfl ?_
                              refine jr_get (pc' := 117) (i := 15) (v := .int (i32 (op2_632))) rfl rfl (by decide) (rFv_eq (by decide) (show G814 15 = op2_632 from ((hF820.1 15 rfl).trans (e641)))) rfl ?_
                              refine jx_ar (pc' := 118) (st' := [.int (i32 (1)), .int (i32 (op2_632)), .ref 66]) rfl rfl rfl rfl ?_
                              refine jx_sub (pc' := 119) rfl rfl ?_
                              refine jr_put (pc' := 122) (i := 15) (z := (op2_632 - 1)) rfl rfl (by decide) rfl rfl rfl rfl rfl rfl ?_
                              have hW838 : Wk (uG G814 15 ((op2_632 - 1))) A815 := Wk_g hW819 (show (-2147483648 : Int) ≤ (op2_632 - 1) by omega) (show (op2_632 - 1) ≤ (2147483647 : Int) by omega)
                              have hF839 := Fr_g (z := (op2_632 - 1)) (i := 15) hF827 (by decide)
                              refine jx_ld (pc' := 123) (l' := L750) (st' := [.ref 66]) rfl (jl_aloadn gL750_0) ?_
                              refine jx_ar (pc' := 125) (st' := [.int (i32 (7)), .ref 66]) rfl rfl rfl rfl ?_
                              refine jx_ld (pc' := 126) (l' := L750) (st' := [.int (i32 (r629)), .int (i32 (7)), .ref 66]) rfl (jl_iloadn gL750_1) ?_
                              refine jx_ar (pc' := 127) (st' := [.int (i32 (0)), .int (i32 (r629)), .int (i32 (7)), .ref 66]) rfl rfl rfl rfl ?_
                              refine jx_ar (pc' := 128) (st' := [.int (i32 (0)), .int (i32 (0)), .int (i32 (r629)), .int (i32 (7)), .ref 66]) rfl rfl rfl rfl ?_
                              refine jx_ar (pc' := 129) (st' := [.int (i32 (0)), .int (i32 (0)), .int (i32 (0)), .int (i32 (r629)), .int (i32 (7)), .ref 66]) rfl rfl rfl rfl ?_
                              refine jx_vr (pc' := 132) (as := [.int (i32 (7)), .int (i32 (r629)), .int (i32 (0)), .int (i32 (0)), .int (i32 (0))]) (st := []) rfl rfl rfl rfl ⟨rfl, rfl, Nat.le_of_ble_eq_true rfl⟩ rfl rfl (c_node (dd := d) (hd := by omega) (hW := hW838) (kind := 7) (a := r629) (b := 0) (c := 0) (e := 0) (nd := nd2_633) (e_nd := show (uG G814 15 ((op2_632 - 1))) 31 = nd2_633 from ((hF820.1 31 rfl).trans (e642)))  (h_kind := ⟨(by decide), (by decide)⟩) (h_a := ⟨(Int.le_trans (by decide : (-2147483648 : Int) ≤ -2147483648) b638.1), (Int.le_trans b638.2 (by decide : (2147483647 : Int) ≤ 2147483647))⟩) (h_b := ⟨(by decide), (by decide)⟩) (h_c := ⟨(by decide), (by decide)⟩) (h_e := ⟨(by decide), (by decide)⟩)  (p_0 := by omega) (p_1 := by omega)) (fun o V' hq => ?_)
                              obtain ⟨G840, A841, nd2_842, rfl, rfl, hW843, hF844, hQ845, e846, p847, p848, -⟩ := hq
                              have hF850 := Fr_tr hF839 hF844 (Fr_sub (by decide)) (Fr_sub (by decide))
                              have hP851 := Pf_tr hP828 hQ845 (by omega)
                              have sf852 : wE A841 Vs sb (2 * k + 2) (r629) (nd) (nd2_633) := wE_ag (by omega) (Sg_fr hF844 (by decide)) (Ag_pf hQ845 (by omega)) sf829
                              have bnd2_842 : (0 : Int) ≤ nd2_842 ∧ nd2_842 ≤ 6999 := e846 ▸ hW843.1 31
                              refine .inr ⟨_, rfl, ?_⟩
                              refine jx_rt (v := some (.int (i32 (nd2_633)))) rfl rfl rfl rfl rfl rfl ?_
                              have z853 := tz_f (tk2_817)
                              exact ⟨_, _, _, at2_816, fk2_818, (op2_632 - 1), nd2_842, tk2_817, rfl, rfl, hW843, hF850, hP851, by omega, ((hF844.1 10 rfl).trans (e821)), ((hF844.1 16 rfl).trans (e823)), (hF844.1 15 rfl), (e846), ((hF844.1 11 rfl).trans (e822)), by omega, by omega, by omega, by omega, by omega, by omega, by first | exact Or.inr (Or.inl (⟨by omega, by omega, by omega⟩))⟩
                            · have _q : True := trivial
                              exfalso
                              omega
                · have _q : True := trivial
                  refine jx_if_eq (pc' := 88) (tg := 133) rfl rfl rfl (by decide) (by decide) (fun h854 => ?_) (fun h854 => ?_)
                  · have _q := h854
                    refine jx_ld (pc' := 134) (l' := [(0, .ref 66)]) (st' := [.ref 66]) rfl (jl_aloadn rfl) ?_
                    have z855 := tz_f (tk0)
                    refine jr_get (pc' := 137) (i := 11) (v := .int (i32 (tk0))) rfl rfl (by decide) (rFv_eq (by decide) (show G 11 = tk0 from (e_tk0))) rfl ?_
                    refine jx_ar (pc' := 138) (st' := [.int (i32 (1)), .int (i32 (tk0))]) rfl rfl rfl rfl ?_
                    refine jx_icmp_eq (pc' := 141) (tg := 152) rfl rfl rfl (Int.le_trans (by decide : (-2147483648 : Int) ≤ 0) b_tk0.1) (Int.le_trans b_tk0.2 (by decide : (5 : Int) ≤ 2147483647)) (by decide) (by decide) (fun h856 => ?_) (fun h856 => ?_)
                    · have _q := h856
                      refine jx_ld (pc' := 153) (l' := [(0, .ref 66)]) (st' := [.ref 66]) rfl (jl_aloadn rfl) ?_
                      have b857 : (-3000 : Int) ≤ G 12 ∧ G 12 ≤ 3002 := hW.1 12
                      refine jr_get (pc' := 156) (i := 12) (v := .int (i32 (G 12))) rfl rfl (by decide) rfl rfl ?_
                      refine jx_ld (pc' := 157) (l' := jSto1 [(0, .ref 66)] 1 (.int (i32 (G 12)))) (st' := []) rfl rfl ?_
                      obtain ⟨L858, eL858⟩ : ∃ q, q = jSto1 [(0, .ref 66)] 1 (.int (i32 (G 12))) := ⟨_, rfl⟩
                      rw [← eL858]
                      have gL858_0 : jGet L858 0 = some (.ref 66) := eL858 ▸ jg_ne (by decide) (rfl : jGet [(0, .ref 66)] 0 = some (.ref 66)) rfl
                      have gL858_1 : jGet L858 1 = some (.int (i32 (G 12))) := eL858 ▸ jg_eq
                      refine jx_ld (pc' := 158) (l' := L858) (st' := [.ref 66]) rfl (jl_aloadn gL858_0) ?_
                      refine jx_vr (pc' := 161) (as := []) (st := []) rfl rfl rfl rfl ⟨rfl, rfl, Nat.le_of_ble_eq_true rfl⟩ rfl rfl (c_lookUp (dd := d) (hd := by omega) (hW := hW)  (fk := fk) (e_fk := show G 16 = fk from (e_fk)) (i_SV := (SV_ext (rfl) (rfl) i_SV))   ) (fun o V' hq => ?_)
                      obtain ⟨G859, A860, r861, fk2_862, rfl, rfl, hW863, hF864, b865, e866, q867⟩ := hq
                      have hF868 := Fr_tr hF0 hF864 (Fr_sub (by decide)) (Fr_sub (by decide))
                      have hP869 := Pf_f hP0 hF864 (by decide)
                      have bfk2_862 : (0 : Int) ≤ fk2_862 ∧ fk2_862 ≤ 6 := e866 ▸ hW863.1 16
                      refine .inr ⟨_, rfl, ?_⟩
                      rcases q867 with ⟨a870, a871⟩ | ⟨a872, a873, a874, a875⟩
                      · have _q : True := trivial
                        refine jx_ld (pc' := 162) (l' := jSto1 L858 2 (.int (i32 (r861)))) (st' := []) rfl rfl ?_
                        obtain ⟨L876, eL876⟩ : ∃ q, q = jSto1 L858 2 (.int (i32 (r861))) := ⟨_, rfl⟩
                        rw [← eL876]
                        have gL876_0 : jGet L876 0 = some (.ref 66) := eL876 ▸ jg_ne (by decide) gL858_0 rfl
                        have gL876_1 : jGet L876 1 = some (.int (i32 (G 12))) := eL876 ▸ jg_ne (by decide) gL858_1 rfl
                        have gL876_2 : jGet L876 2 = some (.int (i32 (r861))) := eL876 ▸ jg_eq
                        refine jx_ld (pc' := 163) (l' := L876) (st' := [.ref 66]) rfl (jl_aloadn gL876_0) ?_
                        refine jx_vr (pc' := 166) (as := []) (st := []) rfl rfl rfl rfl ⟨rfl, rfl, Nat.le_of_ble_eq_true rfl⟩ rfl rfl (c_bad (dd := d) (hd := by omega) (hW := hW863)  (fk := fk2_862) (e_fk := show G859 16 = fk2_862 from (e866))    ) (fun o V' hq => ?_)
                        obtain ⟨r877, rfl, rfl, b878, q879⟩ := hq
                        refine .inr ⟨_, rfl, ?_⟩
                        rcases q879 with ⟨rfl, a880⟩ | ⟨rfl, a881⟩
                        · have _q : True := trivial
                          refine jx_if_eq (pc' := 169) (tg := 171) rfl rfl rfl (by decide) (by decide) (fun h882 => ?_) (fun h882 => ?_)
                          · have _q := h882
                            exact absurd h882 (by omega)
                          · have _q := h882
                            refine jx_ar (pc' := 170) (st' := [.int (i32 (0))]) rfl rfl rfl rfl ?_
                            refine jx_rt (v := some (.int (i32 (0)))) rfl rfl rfl rfl rfl rfl ?_
                            have z883 := tz_f (tk0)
                            exact ⟨_, _, _, at0, fk2_862, op0, nd, tk0, rfl, rfl, hW863, hF868, hP869, by omega, ((hF864.1 10 rfl).trans (e_at0)), (e866), ((hF864.1 15 rfl).trans (e_op0)), ((hF864.1 31 rfl).trans (e_nd)), ((hF864.1 11 rfl).trans (e_tk0)), by omega, by omega, by omega, by omega, by omega, by omega, by first | exact Or.inr (Or.inl (⟨by omega, by omega, by omega⟩))⟩
                        · have _q : True := trivial
                          exfalso
                          omega
                      · have _q : True := trivial
                        refine jx_ld (pc' := 162) (l' := jSto1 L858 2 (.int (i32 (r861)))) (st' := []) rfl rfl ?_
                        obtain ⟨L884, eL884⟩ : ∃ q, q = jSto1 L858 2 (.int (i32 (r861))) := ⟨_, rfl⟩
                        rw [← eL884]
                        have gL884_0 : jGet L884 0 = some (.ref 66) := eL884 ▸ jg_ne (by decide) gL858_0 rfl
                        have gL884_1 : jGet L884 1 = some (.int (i32 (G 12))) := eL884 ▸ jg_ne (by decide) gL858_1 rfl
                        have gL884_2 : jGet L884 2 = some (.int (i32 (r861))) := eL884 ▸ jg_eq
                        refine jx_ld (pc' := 163) (l' := L884) (st' := [.ref 66]) rfl (jl_aloadn gL884_0) ?_
                        refine jx_vr (pc' := 166) (as := []) (st := []) rfl rfl rfl rfl ⟨rfl, rfl, Nat.le_of_ble_eq_true rfl⟩ rfl rfl (c_bad (dd := d) (hd := by omega) (hW := hW863)  (fk := fk2_862) (e_fk := show G859 16 = fk2_862 from (e866))    ) (fun o V' hq => ?_)
                        obtain ⟨r885, rfl, rfl, b886, q887⟩ := hq
                        refine .inr ⟨_, rfl, ?_⟩
                        rcases q887 with ⟨rfl, a888⟩ | ⟨rfl, a889⟩
                        · have _q : True := trivial
                          exfalso
                          omega
                        · have _q : True := trivial
                          refine jx_if_eq (pc' := 169) (tg := 171) rfl rfl rfl (by decide) (by decide) (fun h890 => ?_) (fun h890 => ?_)
                          · have _q := h890
                            refine jx_ld (pc' := 172) (l' := L884) (st' := [.ref 66]) rfl (jl_aloadn gL884_0) ?_
                            refine jx_vr (pc' := 175) (as := []) (st := []) rfl rfl rfl rfl ⟨rfl, rfl, Nat.le_of_ble_eq_true rfl⟩ rfl rfl (c_next (dd := d) (hd := by omega) (hW := hW863)  (ln := ln) (e_ln := show G859 9 = ln from ((hF864.1 9 rfl).trans (e_ln))) (le := le) (e_le := show A860 4 (ln).toNat = le from (congrFun (hF864.2 4 rfl) _).trans (e_le)) (at0 := at0) (e_at0 := show G859 10 = at0 from ((hF864.1 10 rfl).trans (e_at0)))    (p_0 := by omega)) (fun o V' hq => ?_)
                            obtain ⟨G891, A892, at2_893, tk2_894, rfl, rfl, hW895, hF896, e897, e898, p899, p900, p901, -⟩ := hq
                            have hF903 := Fr_tr hF868 hF896 (Fr_sub (by decide)) (Fr_sub (by decide))
                            have hP904 := Pf_f hP869 hF896 (by decide)
                            have bat2_893 : (0 : Int) ≤ at2_893 ∧ at2_893 ≤ 3002 := e897 ▸ hW895.1 10
                            have ztk2_894 := tz_b tk2_894
                            have btk2_894 : (0 : Int) ≤ tk2_894 ∧ tk2_894 ≤ 5 := e898 ▸ hW895.1 11
                            refine .inl ⟨rfl, ?_⟩
                            refine jx_ld (pc' := 176) (l' := L884) (st' := [.ref 66]) rfl (jl_aloadn gL884_0) ?_
                            refine jx_ld (pc' := 177) (l' := L884) (st' := [.int (i32 (r861)), .ref 66]) rfl (jl_iloadn gL884_2) ?_
                            refine jx_ld (pc' := 178) (l' := L884) (st' := [.int (i32 (G 12)), .int (i32 (r861)), .ref 66]) rfl (jl_iloadn gL884_1) ?_
                            refine jx_vr (pc' := 181) (as := [.int (i32 (r861)), .int (i32 (G 12))]) (st := []) rfl rfl rfl rfl ⟨rfl, rfl, Nat.le_of_ble_eq_true rfl⟩ rfl rfl (c_readValue (dd := d) (hE := hE) (hd := by omega) (hW := hW895) (s := r861) (place := G 12) (ln := ln) (e_ln := show G891 9 = ln from ((hF896.1 9 rfl).trans ((hF864.1 9 rfl).trans (e_ln)))) (le := le) (e_le := show A892 4 (ln).toNat = le from (congrFun ((hF896.2 4 rfl).trans (hF864.2 4 rfl)) _).trans (e_le)) (at0 := at2_893) (e_at0 := show G891 10 = at2_893 from (e897)) (fk := fk2_862) (e_fk := show G891 16 = fk2_862 from ((hF896.1 16 rfl).trans (e866))) (op0 := op0) (e_op0 := show G891 15 = op0 from ((hF896.1 15 rfl).trans ((hF864.1 15 rfl).trans (e_op0)))) (nd := nd) (e_nd := show G891 31 = nd from ((hF896.1 31 rfl).trans ((hF864.1 31 rfl).trans (e_nd)))) (tk0 := tk2_894) (e_tk0 := show G891 11 = tk2_894 from (e898)) (i_SV := (SV_ext (((hF896.1 29 rfl).trans (hF864.1 29 rfl))) (((hF896.2 14 rfl).trans (hF864.2 14 rfl))) i_SV)) (h_s := ⟨(Int.le_trans (by decide : (-2147483648 : Int) ≤ -2147483648) b865.1), (Int.le_trans b865.2 (by decide : (2147483647 : Int) ≤ 2147483647))⟩) (h_place := ⟨(Int.le_trans (by decide : (-2147483648 : Int) ≤ -3000) b857.1), (Int.le_trans b857.2 (by decide : (3002 : Int) ≤ 2147483647))⟩)  (p_0 := by omega) (p_1 := by omega) (p_2 := by omega) (p_3 := by omega) (p_4 := by omega) (p_5 := by omega) (p_6 := by omega) (p_7 := by omega) (p_8 := by omega) (p_9 := by omega) (p_10 := a875)) (fun o V' hq => ?_)
                            obtain ⟨G905, A906, r907, at2_908, fk2_909, op2_910, nd2_911, tk2_912, rfl, rfl, hW913, hF914, hQ915, b916, e917, e918, e919, e920, e921, p922, p923, p924, p925, p926, p927, q928⟩ := hq
                            have hF929 := Fr_tr hF903 hF914 (Fr_sub (by decide)) (Fr_sub (by decide))
                            have hP930 := Pf_tr hP904 hQ915 (by omega)
                            have bat2_908 : (0 : Int) ≤ at2_908 ∧ at2_908 ≤ 3002 := e917 ▸ hW913.1 10
                            have bfk2_909 : (0 : Int) ≤ fk2_909 ∧ fk2_909 ≤ 6 := e918 ▸ hW913.1 16
                            have bop2_910 : (-2147483648 : Int) ≤ op2_910 ∧ op2_910 ≤ 2147483647 := e919 ▸ hW913.1 15
                            have bnd2_911 : (0 : Int) ≤ nd2_911 ∧ nd2_911 ≤ 6999 := e920 ▸ hW913.1 31
                            have ztk2_912 := tz_b tk2_912
                            have btk2_912 : (0 : Int) ≤ tk2_912 ∧ tk2_912 ≤ 5 := e921 ▸ hW913.1 11
                            refine .inr ⟨_, rfl, ?_⟩
                            rcases q928 with ⟨a931, a932, a933⟩ | ⟨a934, a935, a936, a937⟩
                            · have _q : True := trivial
                              refine jx_rt (v := some (.int (i32 (r907)))) rfl rfl rfl rfl rfl rfl ?_
                              have z938 := tz_f (tk2_912)
                              exact ⟨_, _, _, at2_908, fk2_909, op2_910, nd2_911, tk2_912, rfl, rfl, hW913, hF929, hP930, by omega, (e917), (e918), (e919), (e920), (e921), by omega, by omega, by omega, by omega, by omega, by omega, by first | exact Or.inr (Or.inl (⟨by omega, by omega, by omega⟩))⟩
                            · have _q : True := trivial
                              refine jx_rt (v := some (.int (i32 (r907)))) rfl rfl rfl rfl rfl rfl ?_
                              have z939 := tz_f (tk2_912)
                              exact ⟨_, _, _, at2_908, fk2_909, op2_910, nd2_911, tk2_912, rfl, rfl, hW913, hF929, hP930, by omega, (e917), (e918), (e919), (e920), (e921), by omega, by omega, by omega, by omega, by omega, by omega, by first | exact Or.inr (Or.inr ((⟨by omega, by omega, by omega, a937⟩)))⟩
                          · have _q := h890
                            exact absurd h890 (by omega)
                    · have _q := h856
                      refine jx_ld (pc' := 142) (l' := [(0, .ref 66)]) (st' := [.ref 66]) rfl (jl_aloadn rfl) ?_
                      refine jx_ar (pc' := 143) (st' := [.int (i32 (1)), .ref 66]) rfl rfl rfl rfl ?_
                      refine jx_ld (pc' := 144) (l' := [(0, .ref 66)]) (st' := [.ref 66, .int (i32 (1)), .ref 66]) rfl (jl_aloadn rfl) ?_
                      have b940 : (-3000 : Int) ≤ G 12 ∧ G 12 ≤ 3002 := hW.1 12
                      refine jr_get (pc' := 147) (i := 12) (v := .int (i32 (G 12))) rfl rfl (by decide) rfl rfl ?_
                      refine jx_vr (pc' := 150) (as := [.int (i32 (1)), .int (i32 (G 12))]) (st := []) rfl rfl rfl rfl ⟨rfl, rfl, Nat.le_of_ble_eq_true rfl⟩ rfl rfl (c_fail (dd := d) (hd := by omega) (hW := hW) (kind := 1) (place := G 12) (fk := fk) (e_fk := show G 16 = fk from (e_fk))  (h_kind := ⟨(by decide), (by decide)⟩) (h_place := ⟨(Int.le_trans (by decide : (-2147483648 : Int) ≤ -3000) b940.1), (Int.le_trans b940.2 (by decide : (3002 : Int) ≤ 2147483647))⟩)  (p_0 := by omega) (p_1 := by omega)) (fun o V' hq => ?_)
                      obtain ⟨G941, A942, fk2_943, rfl, rfl, hW944, hF945, e946, p947, -⟩ := hq
                      have hF949 := Fr_tr hF0 hF945 (Fr_sub (by decide)) (Fr_sub (by decide))
                      have hP950 := Pf_f hP0 hF945 (by decide)
                      have bfk2_943 : (0 : Int) ≤ fk2_943 ∧ fk2_943 ≤ 6 := e946 ▸ hW944.1 16
                      refine .inl ⟨rfl, ?_⟩
                      refine jx_ar (pc' := 151) (st' := [.int (i32 (0))]) rfl rfl rfl rfl ?_
                      refine jx_rt (v := some (.int (i32 (0)))) rfl rfl rfl rfl rfl rfl ?_
                      have z951 := tz_f (tk0)
                      exact ⟨_, _, _, at0, fk2_943, op0, nd, tk0, rfl, rfl, hW944, hF949, hP950, by omega, ((hF945.1 10 rfl).trans (e_at0)), (e946), ((hF945.1 15 rfl).trans (e_op0)), ((hF945.1 31 rfl).trans (e_nd)), ((hF945.1 11 rfl).trans (e_tk0)), by omega, by omega, by omega, by omega, by omega, by omega, by first | exact Or.inr (Or.inl (⟨by omega, by omega, by omega⟩))⟩
                  · have _q := h854
                    exact absurd h854 (by omega)
              · have _q := h311
                exact absurd h311 (by omega)
    · have _q := h8
      exact absurd h8 (by omega)
set_option maxRecDepth 20000 in
set_option maxHeartbeats 4000000 in
theorem c_readRest {X : jX} {k : Nat} (hE : RE X k) {dd : Nat} {Vs : Nat → Prop} {sb : Int} {c0 c1 : jC} {G : Nat → Int} {A : Nat → Nat → Int} {T : jH} {x : Int} {lo : Int} {ln le at0 fk op0 nd tk0 : Int} (hd : 6 * k + 15 ≤ dd) (hW : Wk G A) (e_ln : G 9 = ln) (e_le : A 4 (ln).toNat = le) (e_at0 : G 10 = at0) (e_fk : G 16 = fk) (e_op0 : G 15 = op0) (e_nd : G 31 = nd) (e_tk0 : G 11 = tk0) (i_SV : SV Vs sb G A) (h_x : (-2147483648 : Int) ≤ x ∧ x ≤ 2147483647) (p_0 : 0 ≤ op0) (p_1 : op0 ≤ 9) (p_2 : op0 ≤ 8 ∨ 1 ≤ fk) (p_3 : 9 - op0 ≤ ((k + 1 : Nat) : Int) ∨ 1 ≤ fk) (p_4 : nd ≤ 2 * at0 - tz tk0 + 51) (p_5 : at0 ≤ le) (p_6 : nd ≤ 2 * at0 - tz tk0 + 50 ∨ 1 ≤ fk) (p_7 : 0 ≤ x ∧ x ≤ nd) (p_8 : 0 ≤ lo ∧ lo ≤ nd) (p_9 : fk = 0 → wE A Vs sb (2 * k + 3) (x) (lo) (nd)) : wk X dd 287 [.ref 66, .int (i32 x)] (rV c0 c1 G A T) (fun o V' => ∃ (G' : Nat → Int) (A' : Nat → Nat → Int) (r : Int) (at2 : Int) (fk2 : Int) (op2 : Int) (nd2 : Int) (tk2 : Int), V' = rV c0 c1 G' A' T ∧ o = .inl (some (.int (i32 r))) ∧ Wk G' A' ∧ Fr [10, 11, 12, 13, 14, 15, 16, 17, 18, 31] [15, 16, 17, 18, 19, 20, 21, 22, 24, 28] G A G' A' ∧ Pf nd A A' ∧ ((-2147483648 : Int) ≤ r ∧ r ≤ 2147483647) ∧ G' 10 = at2 ∧ G' 16 = fk2 ∧ G' 15 = op2 ∧ G' 31 = nd2 ∧ G' 11 = tk2 ∧ (at0 ≤ at2) ∧ (at2 ≤ le) ∧ (nd ≤ nd2) ∧ (op2 = op0) ∧ (0 ≤ r) ∧ (r ≤ nd2) ∧ (((1 ≤ fk) ∧ (1 ≤ fk2) ∧ (nd2 = nd) ∧ (at2 = at0) ∧ (tk2 = tk0) ∧ (tz tk2 = tz tk0)) ∨ ((fk = 0) ∧ (1 ≤ fk2) ∧ (nd2 - nd ≤ (2 * at2 - tz tk2) - (2 * at0 - tz tk0) + 1)) ∨ ((fk = 0) ∧ (fk2 = 0) ∧ (nd2 - nd ≤ (2 * at2 - tz tk2) - (2 * at0 - tz tk0)) ∧ (wE A' Vs sb (2 * k + 4) (r) (lo) (nd2))))) := by
  obtain ⟨d, rfl⟩ : ∃ d, dd = d + 1 := ⟨dd - 1, by omega⟩
  refine wk_of (e := jm287) rfl (Nat.le_of_ble_eq_true rfl) ?_
  show wj X d jm287 (0, [(0, .ref 66), (1, .int (i32 (x)))], [], rV c0 c1 G A T) _
  have hF0 : Fr [10, 11, 12, 13, 14, 15, 16, 17, 18, 31] [15, 16, 17, 18, 19, 20, 21, 22, 24, 28] G A G A := Fr_rf
  have hP0 : Pf nd A A := Pf_rf
  have b_ln : (0 : Int) ≤ ln ∧ ln ≤ 3000 := e_ln ▸ hW.1 9
  have b_le : (0 : Int) ≤ le ∧ le ≤ 3000 := e_le ▸ hW.2 4 _
  have b_at0 : (0 : Int) ≤ at0 ∧ at0 ≤ 3002 := e_at0 ▸ hW.1 10
  have b_fk : (0 : Int) ≤ fk ∧ fk ≤ 6 := e_fk ▸ hW.1 16
  have b_op0 : (-2147483648 : Int) ≤ op0 ∧ op0 ≤ 2147483647 := e_op0 ▸ hW.1 15
  have b_nd : (0 : Int) ≤ nd ∧ nd ≤ 6999 := e_nd ▸ hW.1 31
  have z_tk0 := tz_f tk0
  have b_tk0 : (0 : Int) ≤ tk0 ∧ tk0 ≤ 5 := e_tk0 ▸ hW.1 11
  refine jx_ld (pc' := 1) (l' := [(0, .ref 66), (1, .int (i32 (x)))]) (st' := [.ref 66]) rfl (jl_aloadn rfl) ?_
  refine jx_vr (pc' := 4) (as := []) (st := []) rfl rfl rfl rfl ⟨rfl, rfl, Nat.le_of_ble_eq_true rfl⟩ rfl rfl (c_bad (dd := d) (hd := by omega) (hW := hW)  (fk := fk) (e_fk := show G 16 = fk from (e_fk))    ) (fun o V' hq => ?_)
  obtain ⟨r1, rfl, rfl, b2, q3⟩ := hq
  refine .inr ⟨_, rfl, ?_⟩
  rcases q3 with ⟨rfl, a4⟩ | ⟨rfl, a5⟩
  · have _q : True := trivial
    refine jx_if_eq (pc' := 7) (tg := 11) rfl rfl rfl (by decide) (by decide) (fun h6 => ?_) (fun h6 => ?_)
    · have _q := h6
      exact absurd h6 (by omega)
    · have _q := h6
      refine jx_ar (pc' := 8) (st' := [.int (i32 (0))]) rfl rfl rfl rfl ?_
      refine jx_go (tg := 15) rfl rfl ?_
      refine jx_ld (pc' := 16) (l' := jSto1 [(0, .ref 66), (1, .int (i32 (x)))] 2 (.int (i32 (0)))) (st' := []) rfl rfl ?_
      obtain ⟨L7, eL7⟩ : ∃ q, q = jSto1 [(0, .ref 66), (1, .int (i32 (x)))] 2 (.int (i32 (0))) := ⟨_, rfl⟩
      rw [← eL7]
      have gL7_0 : jGet L7 0 = some (.ref 66) := eL7 ▸ jg_ne (by decide) (rfl : jGet [(0, .ref 66), (1, .int (i32 (x)))] 0 = some (.ref 66)) rfl
      have gL7_1 : jGet L7 1 = some (.int (i32 (x))) := eL7 ▸ jg_ne (by decide) (rfl : jGet [(0, .ref 66), (1, .int (i32 (x)))] 1 = some (.int (i32 (x)))) rfl
      have gL7_2 : jGet L7 2 = some (.int (i32 (0))) := eL7 ▸ jg_eq
      refine jx_ld (pc' := 17) (l' := L7) (st' := [.int (i32 (0))]) rfl (jl_iloadn gL7_2) ?_
      refine jx_if_ne (pc' := 20) (tg := 22) rfl rfl rfl (by decide) (by decide) (fun h8 => ?_) (fun h8 => ?_)
      · have _q := h8
        exact absurd h8 (by omega)
      · have _q := h8
        refine jx_ld (pc' := 21) (l' := L7) (st' := [.int (i32 (x))]) rfl (jl_iloadn gL7_1) ?_
        refine jx_rt (v := some (.int (i32 (x)))) rfl rfl rfl rfl rfl rfl ?_
        have z9 := tz_f (tk0)
        exact ⟨_, _, _, at0, fk, op0, nd, tk0, rfl, rfl, hW, hF0, hP0, by omega, (e_at0), (e_fk), (e_op0), (e_nd), (e_tk0), by omega, by omega, by omega, by omega, by omega, by omega, by first | exact Or.inl (⟨by omega, by omega, by omega, by omega, by omega, by omega⟩)⟩
  · have _q : True := trivial
    refine jx_if_eq (pc' := 7) (tg := 11) rfl rfl rfl (by decide) (by decide) (fun h10 => ?_) (fun h10 => ?_)
    · have _q := h10
      refine jx_ld (pc' := 12) (l' := [(0, .ref 66), (1, .int (i32 (x)))]) (st' := [.ref 66]) rfl (jl_aloadn rfl) ?_
      have b11 : (-2147483648 : Int) ≤ G 13 ∧ G 13 ≤ 2147483647 := hW.1 13
      refine jx_vr (pc' := 15) (as := []) (st := []) rfl rfl rfl rfl ⟨rfl, rfl, Nat.le_of_ble_eq_true rfl⟩ rfl rfl (c_operationAt (dd := d) (hd := by omega) (hW := hW)  (tk := tk0) (e_tk := show G 11 = tk0 from (e_tk0)) (tn := G 13) (e_tn := show G 13 = G 13 from rfl)    ) (fun o V' hq => ?_)
      obtain ⟨r12, rfl, rfl, b13, q14⟩ := hq
      refine .inr ⟨_, rfl, ?_⟩
      rcases q14 with rfl | a15
      · have _q : True := trivial
        refine jx_ld (pc' := 16) (l' := jSto1 [(0, .ref 66), (1, .int (i32 (x)))] 2 (.int (i32 (0)))) (st' := []) rfl rfl ?_
        obtain ⟨L16, eL16⟩ : ∃ q, q = jSto1 [(0, .ref 66), (1, .int (i32 (x)))] 2 (.int (i32 (0))) := ⟨_, rfl⟩
        rw [← eL16]
        have gL16_0 : jGet L16 0 = some (.ref 66) := eL16 ▸ jg_ne (by decide) (rfl : jGet [(0, .ref 66), (1, .int (i32 (x)))] 0 = some (.ref 66)) rfl
        have gL16_1 : jGet L16 1 = some (.int (i32 (x))) := eL16 ▸ jg_ne (by decide) (rfl : jGet [(0, .ref 66), (1, .int (i32 (x)))] 1 = some (.int (i32 (x)))) rfl
        have gL16_2 : jGet L16 2 = some (.int (i32 (0))) := eL16 ▸ jg_eq
        refine jx_ld (pc' := 17) (l' := L16) (st' := [.int (i32 (0))]) rfl (jl_iloadn gL16_2) ?_
        refine jx_if_ne (pc' := 20) (tg := 22) rfl rfl rfl (by decide) (by decide) (fun h17 => ?_) (fun h17 => ?_)
        · have _q := h17
          exact absurd h17 (by omega)
        · have _q := h17
          refine jx_ld (pc' := 21) (l' := L16) (st' := [.int (i32 (x))]) rfl (jl_iloadn gL16_1) ?_
          refine jx_rt (v := some (.int (i32 (x)))) rfl rfl rfl rfl rfl rfl ?_
          have z18 := tz_f (tk0)
          exact ⟨_, _, _, at0, fk, op0, nd, tk0, rfl, rfl, hW, hF0, hP0, by omega, (e_at0), (e_fk), (e_op0), (e_nd), (e_tk0), by omega, by omega, by omega, by omega, by omega, by omega, by first | exact Or.inr (Or.inr ((⟨by omega, by omega, by omega, (wE_mono (by omega) (by omega) (by omega) (p_9 (by omega)))⟩)))⟩
      · have _q : True := trivial
        refine jx_ld (pc' := 16) (l' := jSto1 [(0, .ref 66), (1, .int (i32 (x)))] 2 (.int (i32 (r12)))) (st' := []) rfl rfl ?_
        obtain ⟨L19, eL19⟩ : ∃ q, q = jSto1 [(0, .ref 66), (1, .int (i32 (x)))] 2 (.int (i32 (r12))) := ⟨_, rfl⟩
        rw [← eL19]
        have gL19_0 : jGet L19 0 = some (.ref 66) := eL19 ▸ jg_ne (by decide) (rfl : jGet [(0, .ref 66), (1, .int (i32 (x)))] 0 = some (.ref 66)) rfl
        have gL19_1 : jGet L19 1 = some (.int (i32 (x))) := eL19 ▸ jg_ne (by decide) (rfl : jGet [(0, .ref 66), (1, .int (i32 (x)))] 1 = some (.int (i32 (x)))) rfl
        have gL19_2 : jGet L19 2 = some (.int (i32 (r12))) := eL19 ▸ jg_eq
        refine jx_ld (pc' := 17) (l' := L19) (st' := [.int (i32 (r12))]) rfl (jl_iloadn gL19_2) ?_
        refine jx_if_ne (pc' := 20) (tg := 22) rfl rfl rfl (Int.le_trans (by decide : (-2147483648 : Int) ≤ -2147483648) b13.1) (Int.le_trans b13.2 (by decide : (2147483647 : Int) ≤ 2147483647)) (fun h20 => ?_) (fun h20 => ?_)
        · have _q := h20
          refine jx_ld (pc' := 23) (l' := L19) (st' := [.ref 66]) rfl (jl_aloadn gL19_0) ?_
          refine jx_vr (pc' := 26) (as := []) (st := []) rfl rfl rfl rfl ⟨rfl, rfl, Nat.le_of_ble_eq_true rfl⟩ rfl rfl (c_next (dd := d) (hd := by omega) (hW := hW)  (ln := ln) (e_ln := show G 9 = ln from (e_ln)) (le := le) (e_le := show A 4 (ln).toNat = le from (e_le)) (at0 := at0) (e_at0 := show G 10 = at0 from (e_at0))    (p_0 := by omega)) (fun o V' hq => ?_)
          obtain ⟨G21, A22, at2_23, tk2_24, rfl, rfl, hW25, hF26, e27, e28, p29, p30, p31, -⟩ := hq
          have hF33 := Fr_tr hF0 hF26 (Fr_sub (by decide)) (Fr_sub (by decide))
          have hP34 := Pf_f hP0 hF26 (by decide)
          have sf35 : wE A22 Vs sb (2 * k + 3) (x) (lo) (nd) := wE_ag (by omega) (Sg_fr hF26 (by decide)) (Ag_fr hF26 (by decide)) (p_9 (by omega))
          have bat2_23 : (0 : Int) ≤ at2_23 ∧ at2_23 ≤ 3002 := e27 ▸ hW25.1 10
          have ztk2_24 := tz_b tk2_24
          have btk2_24 : (0 : Int) ≤ tk2_24 ∧ tk2_24 ≤ 5 := e28 ▸ hW25.1 11
          refine .inl ⟨rfl, ?_⟩
          refine jx_ld (pc' := 27) (l' := L19) (st' := [.ref 66]) rfl (jl_aloadn gL19_0) ?_
          refine jx_vr (pc' := 30) (as := []) (st := []) rfl rfl rfl rfl ⟨rfl, rfl, Nat.le_of_ble_eq_true rfl⟩ rfl rfl (c_readOperand (dd := d) (hE := hE) (hd := by omega) (hW := hW25)  (ln := ln) (e_ln := show G21 9 = ln from ((hF26.1 9 rfl).trans (e_ln))) (le := le) (e_le := show A22 4 (ln).toNat = le from (congrFun (hF26.2 4 rfl) _).trans (e_le)) (at0 := at2_23) (e_at0 := show G21 10 = at2_23 from (e27)) (fk := fk) (e_fk := show G21 16 = fk from ((hF26.1 16 rfl).trans (e_fk))) (op0 := op0) (e_op0 := show G21 15 = op0 from ((hF26.1 15 rfl).trans (e_op0))) (nd := nd) (e_nd := show G21 31 = nd from ((hF26.1 31 rfl).trans (e_nd))) (tk0 := tk2_24) (e_tk0 := show G21 11 = tk2_24 from (e28)) (i_SV := (SV_ext ((hF26.1 29 rfl)) ((hF26.2 14 rfl)) i_SV))   (p_0 := by omega) (p_1 := by omega) (p_2 := by omega) (p_3 := by omega) (p_4 := by omega) (p_5 := by omega)) (fun o V' hq => ?_)
          obtain ⟨G36, A37, r38, at2_39, fk2_40, op2_41, nd2_42, tk2_43, rfl, rfl, hW44, hF45, hQ46, b47, e48, e49, e50, e51, e52, p53, p54, p55, p56, p57, p58, q59⟩ := hq
          have hF60 := Fr_tr hF33 hF45 (Fr_sub (by decide)) (Fr_sub (by decide))
          have hP61 := Pf_tr hP34 hQ46 (by omega)
          have sf62 : wE A37 Vs sb (2 * k + 3) (x) (lo) (nd) := wE_ag (by omega) (Sg_fr hF45 (by decide)) (Ag_pf hQ46 (by omega)) sf35
          have bat2_39 : (0 : Int) ≤ at2_39 ∧ at2_39 ≤ 3002 := e48 ▸ hW44.1 10
          have bfk2_40 : (0 : Int) ≤ fk2_40 ∧ fk2_40 ≤ 6 := e49 ▸ hW44.1 16
          have bop2_41 : (-2147483648 : Int) ≤ op2_41 ∧ op2_41 ≤ 2147483647 := e50 ▸ hW44.1 15
          have bnd2_42 : (0 : Int) ≤ nd2_42 ∧ nd2_42 ≤ 6999 := e51 ▸ hW44.1 31
          have ztk2_43 := tz_b tk2_43
          have btk2_43 : (0 : Int) ≤ tk2_43 ∧ tk2_43 ≤ 5 := e52 ▸ hW44.1 11
          refine .inr ⟨_, rfl, ?_⟩
          rcases q59 with ⟨a63, a64, a65, a66, a67, a68⟩ | ⟨a69, a70, a71⟩ | ⟨a72, a73, a74, a75⟩
          · have _q : True := trivial
            exfalso
            omega
          · have _q : True := trivial
            refine jx_ld (pc' := 31) (l' := jSto1 L19 3 (.int (i32 (r38)))) (st' := []) rfl rfl ?_
            obtain ⟨L76, eL76⟩ : ∃ q, q = jSto1 L19 3 (.int (i32 (r38))) := ⟨_, rfl⟩
            rw [← eL76]
            have gL76_0 : jGet L76 0 = some (.ref 66) := eL76 ▸ jg_ne (by decide) gL19_0 rfl
            have gL76_1 : jGet L76 1 = some (.int (i32 (x))) := eL76 ▸ jg_ne (by decide) gL19_1 rfl
            have gL76_2 : jGet L76 2 = some (.int (i32 (r12))) := eL76 ▸ jg_ne (by decide) gL19_2 rfl
            have gL76_3 : jGet L76 3 = some (.int (i32 (r38))) := eL76 ▸ jg_eq
            refine jx_ld (pc' := 32) (l' := L76) (st' := [.ref 66]) rfl (jl_aloadn gL76_0) ?_
            refine jx_ar (pc' := 33) (st' := [.int (i32 (4)), .ref 66]) rfl rfl rfl rfl ?_
            refine jx_ld (pc' := 34) (l' := L76) (st' := [.int (i32 (r12)), .int (i32 (4)), .ref 66]) rfl (jl_iloadn gL76_2) ?_
            refine jx_ld (pc' := 35) (l' := L76) (st' := [.int (i32 (x)), .int (i32 (r12)), .int (i32 (4)), .ref 66]) rfl (jl_iloadn gL76_1) ?_
            refine jx_ld (pc' := 36) (l' := L76) (st' := [.int (i32 (r38)), .int (i32 (x)), .int (i32 (r12)), .int (i32 (4)), .ref 66]) rfl (jl_iloadn gL76_3) ?_
            refine jx_ar (pc' := 37) (st' := [.int (i32 (0)), .int (i32 (r38)), .int (i32 (x)), .int (i32 (r12)), .int (i32 (4)), .ref 66]) rfl rfl rfl rfl ?_
            refine jx_vr (pc' := 40) (as := [.int (i32 (4)), .int (i32 (r12)), .int (i32 (x)), .int (i32 (r38)), .int (i32 (0))]) (st := []) rfl rfl rfl rfl ⟨rfl, rfl, Nat.le_of_ble_eq_true rfl⟩ rfl rfl (c_node (dd := d) (hd := by omega) (hW := hW44) (kind := 4) (a := r12) (b := x) (c := r38) (e := 0) (nd := nd2_42) (e_nd := show G36 31 = nd2_42 from (e51))  (h_kind := ⟨(by decide), (by decide)⟩) (h_a := ⟨(Int.le_trans (by decide : (-2147483648 : Int) ≤ -2147483648) b13.1), (Int.le_trans b13.2 (by decide : (2147483647 : Int) ≤ 2147483647))⟩) (h_b := ⟨(Int.le_trans (by decide : (-2147483648 : Int) ≤ -2147483648) h_x.1), (Int.le_trans h_x.2 (by decide : (2147483647 : Int) ≤ 2147483647))⟩) (h_c := ⟨(Int.le_trans (by decide : (-2147483648 : Int) ≤ -2147483648) b47.1), (Int.le_trans b47.2 (by decide : (2147483647 : Int) ≤ 2147483647))⟩) (h_e := ⟨(by decide), (by decide)⟩)  (p_0 := by omega) (p_1 := by omega)) (fun o V' hq => ?_)
            obtain ⟨G77, A78, nd2_79, rfl, rfl, hW80, hF81, hQ82, e83, p84, p85, -⟩ := hq
            have hF87 := Fr_tr hF60 hF81 (Fr_sub (by decide)) (Fr_sub (by decide))
            have hP88 := Pf_tr hP61 hQ82 (by omega)
            have sf89 : wE A78 Vs sb (2 * k + 3) (x) (lo) (nd) := wE_ag (by omega) (Sg_fr hF81 (by decide)) (Ag_pf hQ82 (by omega)) sf62
            have bnd2_79 : (0 : Int) ≤ nd2_79 ∧ nd2_79 ≤ 6999 := e83 ▸ hW80.1 31
            refine .inr ⟨_, rfl, ?_⟩
            refine jx_rt (v := some (.int (i32 (nd2_42)))) rfl rfl rfl rfl rfl rfl ?_
            have z90 := tz_f (tk2_43)
            exact ⟨_, _, _, at2_39, fk2_40, op2_41, nd2_79, tk2_43, rfl, rfl, hW80, hF87, hP88, by omega, ((hF81.1 10 rfl).trans (e48)), ((hF81.1 16 rfl).trans (e49)), ((hF81.1 15 rfl).trans (e50)), (e83), ((hF81.1 11 rfl).trans (e52)), by omega, by omega, by omega, by omega, by omega, by omega, by first | exact Or.inr (Or.inl (⟨by omega, by omega, by omega⟩))⟩
          · have _q : True := trivial
            refine jx_ld (pc' := 31) (l' := jSto1 L19 3 (.int (i32 (r38)))) (st' := []) rfl rfl ?_
            obtain ⟨L91, eL91⟩ : ∃ q, q = jSto1 L19 3 (.int (i32 (r38))) := ⟨_, rfl⟩
            rw [← eL91]
            have gL91_0 : jGet L91 0 = some (.ref 66) := eL91 ▸ jg_ne (by decide) gL19_0 rfl
            have gL91_1 : jGet L91 1 = some (.int (i32 (x))) := eL91 ▸ jg_ne (by decide) gL19_1 rfl
            have gL91_2 : jGet L91 2 = some (.int (i32 (r12))) := eL91 ▸ jg_ne (by decide) gL19_2 rfl
            have gL91_3 : jGet L91 3 = some (.int (i32 (r38))) := eL91 ▸ jg_eq
            refine jx_ld (pc' := 32) (l' := L91) (st' := [.ref 66]) rfl (jl_aloadn gL91_0) ?_
            refine jx_ar (pc' := 33) (st' := [.int (i32 (4)), .ref 66]) rfl rfl rfl rfl ?_
            refine jx_ld (pc' := 34) (l' := L91) (st' := [.int (i32 (r12)), .int (i32 (4)), .ref 66]) rfl (jl_iloadn gL91_2) ?_
            refine jx_ld (pc' := 35) (l' := L91) (st' := [.int (i32 (x)), .int (i32 (r12)), .int (i32 (4)), .ref 66]) rfl (jl_iloadn gL91_1) ?_
            refine jx_ld (pc' := 36) (l' := L91) (st' := [.int (i32 (r38)), .int (i32 (x)), .int (i32 (r12)), .int (i32 (4)), .ref 66]) rfl (jl_iloadn gL91_3) ?_
            refine jx_ar (pc' := 37) (st' := [.int (i32 (0)), .int (i32 (r38)), .int (i32 (x)), .int (i32 (r12)), .int (i32 (4)), .ref 66]) rfl rfl rfl rfl ?_
            refine jx_vr (pc' := 40) (as := [.int (i32 (4)), .int (i32 (r12)), .int (i32 (x)), .int (i32 (r38)), .int (i32 (0))]) (st := []) rfl rfl rfl rfl ⟨rfl, rfl, Nat.le_of_ble_eq_true rfl⟩ rfl rfl (c_node (dd := d) (hd := by omega) (hW := hW44) (kind := 4) (a := r12) (b := x) (c := r38) (e := 0) (nd := nd2_42) (e_nd := show G36 31 = nd2_42 from (e51))  (h_kind := ⟨(by decide), (by decide)⟩) (h_a := ⟨(Int.le_trans (by decide : (-2147483648 : Int) ≤ -2147483648) b13.1), (Int.le_trans b13.2 (by decide : (2147483647 : Int) ≤ 2147483647))⟩) (h_b := ⟨(Int.le_trans (by decide : (-2147483648 : Int) ≤ -2147483648) h_x.1), (Int.le_trans h_x.2 (by decide : (2147483647 : Int) ≤ 2147483647))⟩) (h_c := ⟨(Int.le_trans (by decide : (-2147483648 : Int) ≤ -2147483648) b47.1), (Int.le_trans b47.2 (by decide : (2147483647 : Int) ≤ 2147483647))⟩) (h_e := ⟨(by decide), (by decide)⟩)  (p_0 := by omega) (p_1 := by omega)) (fun o V' hq => ?_)
            obtain ⟨G92, A93, nd2_94, rfl, rfl, hW95, hF96, hQ97, e98, p99, p100, -⟩ := hq
            have hF102 := Fr_tr hF60 hF96 (Fr_sub (by decide)) (Fr_sub (by decide))
            have hP103 := Pf_tr hP61 hQ97 (by omega)
            have sf104 : wE A93 Vs sb (2 * k + 3) (x) (lo) (nd) := wE_ag (by omega) (Sg_fr hF96 (by decide)) (Ag_pf hQ97 (by omega)) sf62
            have sf105 : wE A93 Vs sb (2 * k + 3) (r38) (nd) (nd2_42) := wE_ag (by omega) (Sg_fr hF96 (by decide)) (Ag_pf hQ97 (by omega)) a75
            have bnd2_94 : (0 : Int) ≤ nd2_94 ∧ nd2_94 ≤ 6999 := e98 ▸ hW95.1 31
            refine .inr ⟨_, rfl, ?_⟩
            refine jx_rt (v := some (.int (i32 (nd2_42)))) rfl rfl rfl rfl rfl rfl ?_
            have z106 := tz_f (tk2_43)
            exact ⟨_, _, _, at2_39, fk2_40, op2_41, nd2_94, tk2_43, rfl, rfl, hW95, hF102, hP103, by omega, ((hF96.1 10 rfl).trans (e48)), ((hF96.1 16 rfl).trans (e49)), ((hF96.1 15 rfl).trans (e50)), (e98), ((hF96.1 11 rfl).trans (e52)), by omega, by omega, by omega, by omega, by omega, by omega, by first | exact Or.inr (Or.inr ((⟨by omega, by omega, by omega, (wE_two p100 (by omega) (by omega) (w := nd) (by omega) (by omega) (wE_mono (by omega) (by omega) (by omega) sf104) (wE_mono (by omega) (by omega) (by omega) sf105))⟩)))⟩
        · have _q := h20
          refine jx_ld (pc' := 21) (l' := L19) (st' := [.int (i32 (x))]) rfl (jl_iloadn gL19_1) ?_
          refine jx_rt (v := some (.int (i32 (x)))) rfl rfl rfl rfl rfl rfl ?_
          have z107 := tz_f (tk0)
          exact ⟨_, _, _, at0, fk, op0, nd, tk0, rfl, rfl, hW, hF0, hP0, by omega, (e_at0), (e_fk), (e_op0), (e_nd), (e_tk0), by omega, by omega, by omega, by omega, by omega, by omega, by first | exact Or.inr (Or.inr ((⟨by omega, by omega, by omega, (wE_mono (by omega) (by omega) (by omega) (p_9 (by omega)))⟩)))⟩
    · have _q := h10
      exact absurd h10 (by omega)
set_option maxRecDepth 20000 in
set_option maxHeartbeats 4000000 in
theorem c_readE_s {X : jX} {k : Nat} (hE : RE X k) {dd : Nat} {Vs : Nat → Prop} {sb : Int} {c0 c1 : jC} {G : Nat → Int} {A : Nat → Nat → Int} {T : jH} {ln le at0 fk op0 nd tk0 : Int} (hd : 6 * (k + 1) + 10 ≤ dd) (hW : Wk G A) (e_ln : G 9 = ln) (e_le : A 4 (ln).toNat = le) (e_at0 : G 10 = at0) (e_fk : G 16 = fk) (e_op0 : G 15 = op0) (e_nd : G 31 = nd) (e_tk0 : G 11 = tk0) (i_SV : SV Vs sb G A) (p_0 : 0 ≤ op0) (p_1 : op0 ≤ 9) (p_2 : op0 ≤ 8 ∨ 1 ≤ fk) (p_3 : 9 - op0 ≤ ((k + 1 : Nat) : Int) ∨ 1 ≤ fk) (p_4 : nd ≤ 2 * at0 - tz tk0 + 50) (p_5 : at0 ≤ le) : wk X dd 286 [.ref 66] (rV c0 c1 G A T) (fun o V' => ∃ (G' : Nat → Int) (A' : Nat → Nat → Int) (r : Int) (at2 : Int) (fk2 : Int) (op2 : Int) (nd2 : Int) (tk2 : Int), V' = rV c0 c1 G' A' T ∧ o = .inl (some (.int (i32 r))) ∧ Wk G' A' ∧ Fr [10, 11, 12, 13, 14, 15, 16, 17, 18, 31] [15, 16, 17, 18, 19, 20, 21, 22, 24, 28] G A G' A' ∧ Pf nd A A' ∧ ((-2147483648 : Int) ≤ r ∧ r ≤ 2147483647) ∧ G' 10 = at2 ∧ G' 16 = fk2 ∧ G' 15 = op2 ∧ G' 31 = nd2 ∧ G' 11 = tk2 ∧ (at0 ≤ at2) ∧ (at2 ≤ le) ∧ (nd ≤ nd2) ∧ (op2 = op0) ∧ (0 ≤ r) ∧ (r ≤ nd2) ∧ (((1 ≤ fk) ∧ (1 ≤ fk2) ∧ (nd2 = nd) ∧ (at2 = at0) ∧ (tk2 = tk0) ∧ (tz tk2 = tz tk0)) ∨ ((fk = 0) ∧ (1 ≤ fk2) ∧ (nd2 - nd ≤ (2 * at2 - tz tk2) - (2 * at0 - tz tk0) + 1)) ∨ ((fk = 0) ∧ (fk2 = 0) ∧ (nd2 - nd ≤ (2 * at2 - tz tk2) - (2 * at0 - tz tk0)) ∧ (wE A' Vs sb (2 * (k + 1) + 2) (r) (nd) (nd2))))) := by
  obtain ⟨d, rfl⟩ : ∃ d, dd = d + 1 := ⟨dd - 1, by omega⟩
  refine wk_of (e := jm286) rfl (Nat.le_of_ble_eq_true rfl) ?_
  show wj X d jm286 (0, [(0, .ref 66)], [], rV c0 c1 G A T) _
  have hF0 : Fr [10, 11, 12, 13, 14, 15, 16, 17, 18, 31] [15, 16, 17, 18, 19, 20, 21, 22, 24, 28] G A G A := Fr_rf
  have hP0 : Pf nd A A := Pf_rf
  have b_ln : (0 : Int) ≤ ln ∧ ln ≤ 3000 := e_ln ▸ hW.1 9
  have b_le : (0 : Int) ≤ le ∧ le ≤ 3000 := e_le ▸ hW.2 4 _
  have b_at0 : (0 : Int) ≤ at0 ∧ at0 ≤ 3002 := e_at0 ▸ hW.1 10
  have b_fk : (0 : Int) ≤ fk ∧ fk ≤ 6 := e_fk ▸ hW.1 16
  have b_op0 : (-2147483648 : Int) ≤ op0 ∧ op0 ≤ 2147483647 := e_op0 ▸ hW.1 15
  have b_nd : (0 : Int) ≤ nd ∧ nd ≤ 6999 := e_nd ▸ hW.1 31
  have z_tk0 := tz_f tk0
  have b_tk0 : (0 : Int) ≤ tk0 ∧ tk0 ≤ 5 := e_tk0 ▸ hW.1 11
  refine jx_ld (pc' := 1) (l' := [(0, .ref 66)]) (st' := [.ref 66]) rfl (jl_aloadn rfl) ?_
  refine jx_vr (pc' := 4) (as := []) (st := []) rfl rfl rfl rfl ⟨rfl, rfl, Nat.le_of_ble_eq_true rfl⟩ rfl rfl (c_bad (dd := d) (hd := by omega) (hW := hW)  (fk := fk) (e_fk := show G 16 = fk from (e_fk))    ) (fun o V' hq => ?_)
  obtain ⟨r1, rfl, rfl, b2, q3⟩ := hq
  refine .inr ⟨_, rfl, ?_⟩
  rcases q3 with ⟨rfl, a4⟩ | ⟨rfl, a5⟩
  · have _q : True := trivial
    refine jx_if_eq (pc' := 7) (tg := 9) rfl rfl rfl (by decide) (by decide) (fun h6 => ?_) (fun h6 => ?_)
    · have _q := h6
      exact absurd h6 (by omega)
    · have _q := h6
      refine jx_ar (pc' := 8) (st' := [.int (i32 (0))]) rfl rfl rfl rfl ?_
      refine jx_rt (v := some (.int (i32 (0)))) rfl rfl rfl rfl rfl rfl ?_
      have z7 := tz_f (tk0)
      exact ⟨_, _, _, at0, fk, op0, nd, tk0, rfl, rfl, hW, hF0, hP0, by omega, (e_at0), (e_fk), (e_op0), (e_nd), (e_tk0), by omega, by omega, by omega, by omega, by omega, by omega, by first | exact Or.inl (⟨by omega, by omega, by omega, by omega, by omega, by omega⟩)⟩
  · have _q : True := trivial
    refine jx_if_eq (pc' := 7) (tg := 9) rfl rfl rfl (by decide) (by decide) (fun h8 => ?_) (fun h8 => ?_)
    · have _q := h8
      refine jx_ld (pc' := 10) (l' := [(0, .ref 66)]) (st' := [.ref 66]) rfl (jl_aloadn rfl) ?_
      refine jx_ar (pc' := 12) (st' := [.int (i32 (45)), .ref 66]) rfl rfl rfl rfl ?_
      have b9 : (-2147483648 : Int) ≤ G 13 ∧ G 13 ≤ 2147483647 := hW.1 13
      refine jx_vr (pc' := 15) (as := [.int (i32 (45))]) (st := []) rfl rfl rfl rfl ⟨rfl, rfl, Nat.le_of_ble_eq_true rfl⟩ rfl rfl (c_is (dd := d) (hd := by omega) (hW := hW) (k := 45) (tk := tk0) (e_tk := show G 11 = tk0 from (e_tk0)) (tn := G 13) (e_tn := show G 13 = G 13 from rfl)  (h_k := ⟨(by decide), (by decide)⟩)  ) (fun o V' hq => ?_)
      obtain ⟨r10, rfl, rfl, b11, q12⟩ := hq
      refine .inr ⟨_, rfl, ?_⟩
      rcases q12 with ⟨rfl, a13, a14, a15⟩ | rfl
      · have _q : True := trivial
        refine jx_if_ne (pc' := 18) (tg := 27) rfl rfl rfl (by decide) (by decide) (fun h16 => ?_) (fun h16 => ?_)
        · have _q := h16
          refine jx_ld (pc' := 28) (l' := [(0, .ref 66)]) (st' := [.ref 66]) rfl (jl_aloadn rfl) ?_
          refine jx_ar (pc' := 30) (st' := [.int (i32 (45)), .ref 66]) rfl rfl rfl rfl ?_
          refine jx_vr (pc' := 33) (as := [.int (i32 (45))]) (st := []) rfl rfl rfl rfl ⟨rfl, rfl, Nat.le_of_ble_eq_true rfl⟩ rfl rfl (c_is (dd := d) (hd := by omega) (hW := hW) (k := 45) (tk := tk0) (e_tk := show G 11 = tk0 from (e_tk0)) (tn := G 13) (e_tn := show G 13 = G 13 from rfl)  (h_k := ⟨(by decide), (by decide)⟩)  ) (fun o V' hq => ?_)
          obtain ⟨r17, rfl, rfl, b18, q19⟩ := hq
          refine .inr ⟨_, rfl, ?_⟩
          rcases q19 with ⟨rfl, a20, a21, a22⟩ | rfl
          · have _q : True := trivial
            refine jx_if_eq (pc' := 36) (tg := 40) rfl rfl rfl (by decide) (by decide) (fun h23 => ?_) (fun h23 => ?_)
            · have _q := h23
              exact absurd h23 (by omega)
            · have _q := h23
              refine jx_ar (pc' := 37) (st' := [.int (i32 (5))]) rfl rfl rfl rfl ?_
              refine jx_go (tg := 42) rfl rfl ?_
              refine jx_ld (pc' := 43) (l' := jSto1 [(0, .ref 66)] 1 (.int (i32 (5)))) (st' := []) rfl rfl ?_
              obtain ⟨L24, eL24⟩ : ∃ q, q = jSto1 [(0, .ref 66)] 1 (.int (i32 (5))) := ⟨_, rfl⟩
              rw [← eL24]
              have gL24_0 : jGet L24 0 = some (.ref 66) := eL24 ▸ jg_ne (by decide) (rfl : jGet [(0, .ref 66)] 0 = some (.ref 66)) rfl
              have gL24_1 : jGet L24 1 = some (.int (i32 (5))) := eL24 ▸ jg_eq
              refine jx_ld (pc' := 44) (l' := L24) (st' := [.ref 66]) rfl (jl_aloadn gL24_0) ?_
              refine jx_vr (pc' := 47) (as := []) (st := []) rfl rfl rfl rfl ⟨rfl, rfl, Nat.le_of_ble_eq_true rfl⟩ rfl rfl (c_next (dd := d) (hd := by omega) (hW := hW)  (ln := ln) (e_ln := show G 9 = ln from (e_ln)) (le := le) (e_le := show A 4 (ln).toNat = le from (e_le)) (at0 := at0) (e_at0 := show G 10 = at0 from (e_at0))    (p_0 := by omega)) (fun o V' hq => ?_)
              obtain ⟨G25, A26, at2_27, tk2_28, rfl, rfl, hW29, hF30, e31, e32, p33, p34, p35, -⟩ := hq
              have hF37 := Fr_tr hF0 hF30 (Fr_sub (by decide)) (Fr_sub (by decide))
              have hP38 := Pf_f hP0 hF30 (by decide)
              have bat2_27 : (0 : Int) ≤ at2_27 ∧ at2_27 ≤ 3002 := e31 ▸ hW29.1 10
              have ztk2_28 := tz_b tk2_28
              have btk2_28 : (0 : Int) ≤ tk2_28 ∧ tk2_28 ≤ 5 := e32 ▸ hW29.1 11
              refine .inl ⟨rfl, ?_⟩
              refine jx_ld (pc' := 48) (l' := L24) (st' := [.ref 66]) rfl (jl_aloadn gL24_0) ?_
              refine jx_vr (pc' := 51) (as := []) (st := []) rfl rfl rfl rfl ⟨rfl, rfl, Nat.le_of_ble_eq_true rfl⟩ rfl rfl (c_readOperand (dd := d) (hE := hE) (hd := by omega) (hW := hW29)  (ln := ln) (e_ln := show G25 9 = ln from ((hF30.1 9 rfl).trans (e_ln))) (le := le) (e_le := show A26 4 (ln).toNat = le from (congrFun (hF30.2 4 rfl) _).trans (e_le)) (at0 := at2_27) (e_at0 := show G25 10 = at2_27 from (e31)) (fk := fk) (e_fk := show G25 16 = fk from ((hF30.1 16 rfl).trans (e_fk))) (op0 := op0) (e_op0 := show G25 15 = op0 from ((hF30.1 15 rfl).trans (e_op0))) (nd := nd) (e_nd := show G25 31 = nd from ((hF30.1 31 rfl).trans (e_nd))) (tk0 := tk2_28) (e_tk0 := show G25 11 = tk2_28 from (e32)) (i_SV := (SV_ext ((hF30.1 29 rfl)) ((hF30.2 14 rfl)) i_SV))   (p_0 := by omega) (p_1 := by omega) (p_2 := by omega) (p_3 := by omega) (p_4 := by omega) (p_5 := by omega)) (fun o V' hq => ?_)
              obtain ⟨G39, A40, r41, at2_42, fk2_43, op2_44, nd2_45, tk2_46, rfl, rfl, hW47, hF48, hQ49, b50, e51, e52, e53, e54, e55, p56, p57, p58, p59, p60, p61, q62⟩ := hq
              have hF63 := Fr_tr hF37 hF48 (Fr_sub (by decide)) (Fr_sub (by decide))
              have hP64 := Pf_tr hP38 hQ49 (by omega)
              have bat2_42 : (0 : Int) ≤ at2_42 ∧ at2_42 ≤ 3002 := e51 ▸ hW47.1 10
              have bfk2_43 : (0 : Int) ≤ fk2_43 ∧ fk2_43 ≤ 6 := e52 ▸ hW47.1 16
              have bop2_44 : (-2147483648 : Int) ≤ op2_44 ∧ op2_44 ≤ 2147483647 := e53 ▸ hW47.1 15
              have bnd2_45 : (0 : Int) ≤ nd2_45 ∧ nd2_45 ≤ 6999 := e54 ▸ hW47.1 31
              have ztk2_46 := tz_b tk2_46
              have btk2_46 : (0 : Int) ≤ tk2_46 ∧ tk2_46 ≤ 5 := e55 ▸ hW47.1 11
              refine .inr ⟨_, rfl, ?_⟩
              rcases q62 with ⟨a65, a66, a67, a68, a69, a70⟩ | ⟨a71, a72, a73⟩ | ⟨a74, a75, a76, a77⟩
              · have _q : True := trivial
                exfalso
                omega
              · have _q : True := trivial
                refine jx_ld (pc' := 52) (l' := jSto1 L24 2 (.int (i32 (r41)))) (st' := []) rfl rfl ?_
                obtain ⟨L78, eL78⟩ : ∃ q, q = jSto1 L24 2 (.int (i32 (r41))) := ⟨_, rfl⟩
                rw [← eL78]
                have gL78_0 : jGet L78 0 = some (.ref 66) := eL78 ▸ jg_ne (by decide) gL24_0 rfl
                have gL78_1 : jGet L78 1 = some (.int (i32 (5))) := eL78 ▸ jg_ne (by decide) gL24_1 rfl
                have gL78_2 : jGet L78 2 = some (.int (i32 (r41))) := eL78 ▸ jg_eq
                refine jx_ld (pc' := 53) (l' := L78) (st' := [.ref 66]) rfl (jl_aloadn gL78_0) ?_
                refine jx_ld (pc' := 54) (l' := L78) (st' := [.int (i32 (5)), .ref 66]) rfl (jl_iloadn gL78_1) ?_
                refine jx_ld (pc' := 55) (l' := L78) (st' := [.int (i32 (r41)), .int (i32 (5)), .ref 66]) rfl (jl_iloadn gL78_2) ?_
                refine jx_ar (pc' := 56) (st' := [.int (i32 (0)), .int (i32 (r41)), .int (i32 (5)), .ref 66]) rfl rfl rfl rfl ?_
                refine jx_ar (pc' := 57) (st' := [.int (i32 (0)), .int (i32 (0)), .int (i32 (r41)), .int (i32 (5)), .ref 66]) rfl rfl rfl rfl ?_
                refine jx_ar (pc' := 58) (st' := [.int (i32 (0)), .int (i32 (0)), .int (i32 (0)), .int (i32 (r41)), .int (i32 (5)), .ref 66]) rfl rfl rfl rfl ?_
                refine jx_vr (pc' := 61) (as := [.int (i32 (5)), .int (i32 (r41)), .int (i32 (0)), .int (i32 (0)), .int (i32 (0))]) (st := []) rfl rfl rfl rfl ⟨rfl, rfl, Nat.le_of_ble_eq_true rfl⟩ rfl rfl (c_node (dd := d) (hd := by omega) (hW := hW47) (kind := 5) (a := r41) (b := 0) (c := 0) (e := 0) (nd := nd2_45) (e_nd := show G39 31 = nd2_45 from (e54))  (h_kind := ⟨(by decide), (by decide)⟩) (h_a := ⟨(Int.le_trans (by decide : (-2147483648 : Int) ≤ -2147483648) b50.1), (Int.le_trans b50.2 (by decide : (2147483647 : Int) ≤ 2147483647))⟩) (h_b := ⟨(by decide), (by decide)⟩) (h_c := ⟨(by decide), (by decide)⟩) (h_e := ⟨(by decide), (by decide)⟩)  (p_0 := by omega) (p_1 := by omega)) (fun o V' hq => ?_)
                obtain ⟨G79, A80, nd2_81, rfl, rfl, hW82, hF83, hQ84, e85, p86, p87, -⟩ := hq
                have hF89 := Fr_tr hF63 hF83 (Fr_sub (by decide)) (Fr_sub (by decide))
                have hP90 := Pf_tr hP64 hQ84 (by omega)
                have bnd2_81 : (0 : Int) ≤ nd2_81 ∧ nd2_81 ≤ 6999 := e85 ▸ hW82.1 31
                refine .inr ⟨_, rfl, ?_⟩
                refine jx_rt (v := some (.int (i32 (nd2_45)))) rfl rfl rfl rfl rfl rfl ?_
                have z91 := tz_f (tk2_46)
                exact ⟨_, _, _, at2_42, fk2_43, op2_44, nd2_81, tk2_46, rfl, rfl, hW82, hF89, hP90, by omega, ((hF83.1 10 rfl).trans (e51)), ((hF83.1 16 rfl).trans (e52)), ((hF83.1 15 rfl).trans (e53)), (e85), ((hF83.1 11 rfl).trans (e55)), by omega, by omega, by omega, by omega, by omega, by omega, by first | exact Or.inr (Or.inl (⟨by omega, by omega, by omega⟩))⟩
              · have _q : True := trivial
                refine jx_ld (pc' := 52) (l' := jSto1 L24 2 (.int (i32 (r41)))) (st' := []) rfl rfl ?_
                obtain ⟨L92, eL92⟩ : ∃ q, q = jSto1 L24 2 (.int (i32 (r41))) := ⟨_, rfl⟩
                rw [← eL92]
                have gL92_0 : jGet L92 0 = some (.ref 66) := eL92 ▸ jg_ne (by decide) gL24_0 rfl
                have gL92_1 : jGet L92 1 = some (.int (i32 (5))) := eL92 ▸ jg_ne (by decide) gL24_1 rfl
                have gL92_2 : jGet L92 2 = some (.int (i32 (r41))) := eL92 ▸ jg_eq
                refine jx_ld (pc' := 53) (l' := L92) (st' := [.ref 66]) rfl (jl_aloadn gL92_0) ?_
                refine jx_ld (pc' := 54) (l' := L92) (st' := [.int (i32 (5)), .ref 66]) rfl (jl_iloadn gL92_1) ?_
                refine jx_ld (pc' := 55) (l' := L92) (st' := [.int (i32 (r41)), .int (i32 (5)), .ref 66]) rfl (jl_iloadn gL92_2) ?_
                refine jx_ar (pc' := 56) (st' := [.int (i32 (0)), .int (i32 (r41)), .int (i32 (5)), .ref 66]) rfl rfl rfl rfl ?_
                refine jx_ar (pc' := 57) (st' := [.int (i32 (0)), .int (i32 (0)), .int (i32 (r41)), .int (i32 (5)), .ref 66]) rfl rfl rfl rfl ?_
                refine jx_ar (pc' := 58) (st' := [.int (i32 (0)), .int (i32 (0)), .int (i32 (0)), .int (i32 (r41)), .int (i32 (5)), .ref 66]) rfl rfl rfl rfl ?_
                refine jx_vr (pc' := 61) (as := [.int (i32 (5)), .int (i32 (r41)), .int (i32 (0)), .int (i32 (0)), .int (i32 (0))]) (st := []) rfl rfl rfl rfl ⟨rfl, rfl, Nat.le_of_ble_eq_true rfl⟩ rfl rfl (c_node (dd := d) (hd := by omega) (hW := hW47) (kind := 5) (a := r41) (b := 0) (c := 0) (e := 0) (nd := nd2_45) (e_nd := show G39 31 = nd2_45 from (e54))  (h_kind := ⟨(by decide), (by decide)⟩) (h_a := ⟨(Int.le_trans (by decide : (-2147483648 : Int) ≤ -2147483648) b50.1), (Int.le_trans b50.2 (by decide : (2147483647 : Int) ≤ 2147483647))⟩) (h_b := ⟨(by decide), (by decide)⟩) (h_c := ⟨(by decide), (by decide)⟩) (h_e := ⟨(by decide), (by decide)⟩)  (p_0 := by omega) (p_1 := by omega)) (fun o V' hq => ?_)
                obtain ⟨G93, A94, nd2_95, rfl, rfl, hW96, hF97, hQ98, e99, p100, p101, -⟩ := hq
                have hF103 := Fr_tr hF63 hF97 (Fr_sub (by decide)) (Fr_sub (by decide))
                have hP104 := Pf_tr hP64 hQ98 (by omega)
                have sf105 : wE A94 Vs sb (2 * k + 3) (r41) (nd) (nd2_45) := wE_ag (by omega) (Sg_fr hF97 (by decide)) (Ag_pf hQ98 (by omega)) a77
                have bnd2_95 : (0 : Int) ≤ nd2_95 ∧ nd2_95 ≤ 6999 := e99 ▸ hW96.1 31
                refine .inr ⟨_, rfl, ?_⟩
                refine jx_rt (v := some (.int (i32 (nd2_45)))) rfl rfl rfl rfl rfl rfl ?_
                have z106 := tz_f (tk2_46)
                exact ⟨_, _, _, at2_42, fk2_43, op2_44, nd2_95, tk2_46, rfl, rfl, hW96, hF103, hP104, by omega, ((hF97.1 10 rfl).trans (e51)), ((hF97.1 16 rfl).trans (e52)), ((hF97.1 15 rfl).trans (e53)), (e99), ((hF97.1 11 rfl).trans (e55)), by omega, by omega, by omega, by omega, by omega, by omega, by first | exact Or.inr (Or.inr ((⟨by omega, by omega, by omega, (wE_one p101 (by omega) (by omega) (by omega) (wE_mono (by omega) (by omega) (by omega) sf105))⟩)))⟩
          · have _q : True := trivial
            refine jx_if_eq (pc' := 36) (tg := 40) rfl rfl rfl (by decide) (by decide) (fun h107 => ?_) (fun h107 => ?_)
            · have _q := h107
              refine jx_ar (pc' := 42) (st' := [.int (i32 (6))]) rfl rfl rfl rfl ?_
              refine jx_ld (pc' := 43) (l' := jSto1 [(0, .ref 66)] 1 (.int (i32 (6)))) (st' := []) rfl rfl ?_
              obtain ⟨L108, eL108⟩ : ∃ q, q = jSto1 [(0, .ref 66)] 1 (.int (i32 (6))) := ⟨_, rfl⟩
              rw [← eL108]
              have gL108_0 : jGet L108 0 = some (.ref 66) := eL108 ▸ jg_ne (by decide) (rfl : jGet [(0, .ref 66)] 0 = some (.ref 66)) rfl
              have gL108_1 : jGet L108 1 = some (.int (i32 (6))) := eL108 ▸ jg_eq
              refine jx_ld (pc' := 44) (l' := L108) (st' := [.ref 66]) rfl (jl_aloadn gL108_0) ?_
              refine jx_vr (pc' := 47) (as := []) (st := []) rfl rfl rfl rfl ⟨rfl, rfl, Nat.le_of_ble_eq_true rfl⟩ rfl rfl (c_next (dd := d) (hd := by omega) (hW := hW)  (ln := ln) (e_ln := show G 9 = ln from (e_ln)) (le := le) (e_le := show A 4 (ln).toNat = le from (e_le)) (at0 := at0) (e_at0 := show G 10 = at0 from (e_at0))    (p_0 := by omega)) (fun o V' hq => ?_)
              obtain ⟨G109, A110, at2_111, tk2_112, rfl, rfl, hW113, hF114, e115, e116, p117, p118, p119, -⟩ := hq
              have hF121 := Fr_tr hF0 hF114 (Fr_sub (by decide)) (Fr_sub (by decide))
              have hP122 := Pf_f hP0 hF114 (by decide)
              have bat2_111 : (0 : Int) ≤ at2_111 ∧ at2_111 ≤ 3002 := e115 ▸ hW113.1 10
              have ztk2_112 := tz_b tk2_112
              have btk2_112 : (0 : Int) ≤ tk2_112 ∧ tk2_112 ≤ 5 := e116 ▸ hW113.1 11
              refine .inl ⟨rfl, ?_⟩
              refine jx_ld (pc' := 48) (l' := L108) (st' := [.ref 66]) rfl (jl_aloadn gL108_0) ?_
              refine jx_vr (pc' := 51) (as := []) (st := []) rfl rfl rfl rfl ⟨rfl, rfl, Nat.le_of_ble_eq_true rfl⟩ rfl rfl (c_readOperand (dd := d) (hE := hE) (hd := by omega) (hW := hW113)  (ln := ln) (e_ln := show G109 9 = ln from ((hF114.1 9 rfl).trans (e_ln))) (le := le) (e_le := show A110 4 (ln).toNat = le from (congrFun (hF114.2 4 rfl) _).trans (e_le)) (at0 := at2_111) (e_at0 := show G109 10 = at2_111 from (e115)) (fk := fk) (e_fk := show G109 16 = fk from ((hF114.1 16 rfl).trans (e_fk))) (op0 := op0) (e_op0 := show G109 15 = op0 from ((hF114.1 15 rfl).trans (e_op0))) (nd := nd) (e_nd := show G109 31 = nd from ((hF114.1 31 rfl).trans (e_nd))) (tk0 := tk2_112) (e_tk0 := show G109 11 = tk2_112 from (e116)) (i_SV := (SV_ext ((hF114.1 29 rfl)) ((hF114.2 14 rfl)) i_SV))   (p_0 := by omega) (p_1 := by omega) (p_2 := by omega) (p_3 := by omega) (p_4 := by omega) (p_5 := by omega)) (fun o V' hq => ?_)
              obtain ⟨G123, A124, r125, at2_126, fk2_127, op2_128, nd2_129, tk2_130, rfl, rfl, hW131, hF132, hQ133, b134, e135, e136, e137, e138, e139, p140, p141, p142, p143, p144, p145, q146⟩ := hq
              have hF147 := Fr_tr hF121 hF132 (Fr_sub (by decide)) (Fr_sub (by decide))
              have hP148 := Pf_tr hP122 hQ133 (by omega)
              have bat2_126 : (0 : Int) ≤ at2_126 ∧ at2_126 ≤ 3002 := e135 ▸ hW131.1 10
              have bfk2_127 : (0 : Int) ≤ fk2_127 ∧ fk2_127 ≤ 6 := e136 ▸ hW131.1 16
              have bop2_128 : (-2147483648 : Int) ≤ op2_128 ∧ op2_128 ≤ 2147483647 := e137 ▸ hW131.1 15
              have bnd2_129 : (0 : Int) ≤ nd2_129 ∧ nd2_129 ≤ 6999 := e138 ▸ hW131.1 31
              have ztk2_130 := tz_b tk2_130
              have btk2_130 : (0 : Int) ≤ tk2_130 ∧ tk2_130 ≤ 5 := e139 ▸ hW131.1 11
              refine .inr ⟨_, rfl, ?_⟩
              rcases q146 with ⟨a149, a150, a151, a152, a153, a154⟩ | ⟨a155, a156, a157⟩ | ⟨a158, a159, a160, a161⟩
              · have _q : True := trivial
                exfalso
                omega
              · have _q : True := trivial
                refine jx_ld (pc' := 52) (l' := jSto1 L108 2 (.int (i32 (r125)))) (st' := []) rfl rfl ?_
                obtain ⟨L162, eL162⟩ : ∃ q, q = jSto1 L108 2 (.int (i32 (r125))) := ⟨_, rfl⟩
                rw [← eL162]
                have gL162_0 : jGet L162 0 = some (.ref 66) := eL162 ▸ jg_ne (by decide) gL108_0 rfl
                have gL162_1 : jGet L162 1 = some (.int (i32 (6))) := eL162 ▸ jg_ne (by decide) gL108_1 rfl
                have gL162_2 : jGet L162 2 = some (.int (i32 (r125))) := eL162 ▸ jg_eq
                refine jx_ld (pc' := 53) (l' := L162) (st' := [.ref 66]) rfl (jl_aloadn gL162_0) ?_
                refine jx_ld (pc' := 54) (l' := L162) (st' := [.int (i32 (6)), .ref 66]) rfl (jl_iloadn gL162_1) ?_
                refine jx_ld (pc' := 55) (l' := L162) (st' := [.int (i32 (r125)), .int (i32 (6)), .ref 66]) rfl (jl_iloadn gL162_2) ?_
                refine jx_ar (pc' := 56) (st' := [.int (i32 (0)), .int (i32 (r125)), .int (i32 (6)), .ref 66]) rfl rfl rfl rfl ?_
                refine jx_ar (pc' := 57) (st' := [.int (i32 (0)), .int (i32 (0)), .int (i32 (r125)), .int (i32 (6)), .ref 66]) rfl rfl rfl rfl ?_
                refine jx_ar (pc' := 58) (st' := [.int (i32 (0)), .int (i32 (0)), .int (i32 (0)), .int (i32 (r125)), .int (i32 (6)), .ref 66]) rfl rfl rfl rfl ?_
                refine jx_vr (pc' := 61) (as := [.int (i32 (6)), .int (i32 (r125)), .int (i32 (0)), .int (i32 (0)), .int (i32 (0))]) (st := []) rfl rfl rfl rfl ⟨rfl, rfl, Nat.le_of_ble_eq_true rfl⟩ rfl rfl (c_node (dd := d) (hd := by omega) (hW := hW131) (kind := 6) (a := r125) (b := 0) (c := 0) (e := 0) (nd := nd2_129) (e_nd := show G123 31 = nd2_129 from (e138))  (h_kind := ⟨(by decide), (by decide)⟩) (h_a := ⟨(Int.le_trans (by decide : (-2147483648 : Int) ≤ -2147483648) b134.1), (Int.le_trans b134.2 (by decide : (2147483647 : Int) ≤ 2147483647))⟩) (h_b := ⟨(by decide), (by decide)⟩) (h_c := ⟨(by decide), (by decide)⟩) (h_e := ⟨(by decide), (by decide)⟩)  (p_0 := by omega) (p_1 := by omega)) (fun o V' hq => ?_)
                obtain ⟨G163, A164, nd2_165, rfl, rfl, hW166, hF167, hQ168, e169, p170, p171, -⟩ := hq
                have hF173 := Fr_tr hF147 hF167 (Fr_sub (by decide)) (Fr_sub (by decide))
                have hP174 := Pf_tr hP148 hQ168 (by omega)
                have bnd2_165 : (0 : Int) ≤ nd2_165 ∧ nd2_165 ≤ 6999 := e169 ▸ hW166.1 31
                refine .inr ⟨_, rfl, ?_⟩
                refine jx_rt (v := some (.int (i32 (nd2_129)))) rfl rfl rfl rfl rfl rfl ?_
                have z175 := tz_f (tk2_130)
                exact ⟨_, _, _, at2_126, fk2_127, op2_128, nd2_165, tk2_130, rfl, rfl, hW166, hF173, hP174, by omega, ((hF167.1 10 rfl).trans (e135)), ((hF167.1 16 rfl).trans (e136)), ((hF167.1 15 rfl).trans (e137)), (e169), ((hF167.1 11 rfl).trans (e139)), by omega, by omega, by omega, by omega, by omega, by omega, by first | exact Or.inr (Or.inl (⟨by omega, by omega, by omega⟩))⟩
              · have _q : True := trivial
                refine jx_ld (pc' := 52) (l' := jSto1 L108 2 (.int (i32 (r125)))) (st' := []) rfl rfl ?_
                obtain ⟨L176, eL176⟩ : ∃ q, q = jSto1 L108 2 (.int (i32 (r125))) := ⟨_, rfl⟩
                rw [← eL176]
                have gL176_0 : jGet L176 0 = some (.ref 66) := eL176 ▸ jg_ne (by decide) gL108_0 rfl
                have gL176_1 : jGet L176 1 = some (.int (i32 (6))) := eL176 ▸ jg_ne (by decide) gL108_1 rfl
                have gL176_2 : jGet L176 2 = some (.int (i32 (r125))) := eL176 ▸ jg_eq
                refine jx_ld (pc' := 53) (l' := L176) (st' := [.ref 66]) rfl (jl_aloadn gL176_0) ?_
                refine jx_ld (pc' := 54) (l' := L176) (st' := [.int (i32 (6)), .ref 66]) rfl (jl_iloadn gL176_1) ?_
                refine jx_ld (pc' := 55) (l' := L176) (st' := [.int (i32 (r125)), .int (i32 (6)), .ref 66]) rfl (jl_iloadn gL176_2) ?_
                refine jx_ar (pc' := 56) (st' := [.int (i32 (0)), .int (i32 (r125)), .int (i32 (6)), .ref 66]) rfl rfl rfl rfl ?_
                refine jx_ar (pc' := 57) (st' := [.int (i32 (0)), .int (i32 (0)), .int (i32 (r125)), .int (i32 (6)), .ref 66]) rfl rfl rfl rfl ?_
                refine jx_ar (pc' := 58) (st' := [.int (i32 (0)), .int (i32 (0)), .int (i32 (0)), .int (i32 (r125)), .int (i32 (6)), .ref 66]) rfl rfl rfl rfl ?_
                refine jx_vr (pc' := 61) (as := [.int (i32 (6)), .int (i32 (r125)), .int (i32 (0)), .int (i32 (0)), .int (i32 (0))]) (st := []) rfl rfl rfl rfl ⟨rfl, rfl, Nat.le_of_ble_eq_true rfl⟩ rfl rfl (c_node (dd := d) (hd := by omega) (hW := hW131) (kind := 6) (a := r125) (b := 0) (c := 0) (e := 0) (nd := nd2_129) (e_nd := show G123 31 = nd2_129 from (e138))  (h_kind := ⟨(by decide), (by decide)⟩) (h_a := ⟨(Int.le_trans (by decide : (-2147483648 : Int) ≤ -2147483648) b134.1), (Int.le_trans b134.2 (by decide : (2147483647 : Int) ≤ 2147483647))⟩) (h_b := ⟨(by decide), (by decide)⟩) (h_c := ⟨(by decide), (by decide)⟩) (h_e := ⟨(by decide), (by decide)⟩)  (p_0 := by omega) (p_1 := by omega)) (fun o V' hq => ?_)
                obtain ⟨G177, A178, nd2_179, rfl, rfl, hW180, hF181, hQ182, e183, p184, p185, -⟩ := hq
                have hF187 := Fr_tr hF147 hF181 (Fr_sub (by decide)) (Fr_sub (by decide))
                have hP188 := Pf_tr hP148 hQ182 (by omega)
                have sf189 : wE A178 Vs sb (2 * k + 3) (r125) (nd) (nd2_129) := wE_ag (by omega) (Sg_fr hF181 (by decide)) (Ag_pf hQ182 (by omega)) a161
                have bnd2_179 : (0 : Int) ≤ nd2_179 ∧ nd2_179 ≤ 6999 := e183 ▸ hW180.1 31
                refine .inr ⟨_, rfl, ?_⟩
                refine jx_rt (v := some (.int (i32 (nd2_129)))) rfl rfl rfl rfl rfl rfl ?_
                have z190 := tz_f (tk2_130)
                exact ⟨_, _, _, at2_126, fk2_127, op2_128, nd2_179, tk2_130, rfl, rfl, hW180, hF187, hP188, by omega, ((hF181.1 10 rfl).trans (e135)), ((hF181.1 16 rfl).trans (e136)), ((hF181.1 15 rfl).trans (e137)), (e183), ((hF181.1 11 rfl).trans (e139)), by omega, by omega, by omega, by omega, by omega, by omega, by first | exact Or.inr (Or.inr ((⟨by omega, by omega, by omega, (wE_one p185 (by omega) (by omega) (by omega) (wE_mono (by omega) (by omega) (by omega) sf189))⟩)))⟩
            · have _q := h107
              exact absurd h107 (by omega)
        · have _q := h16
          exact absurd h16 (by omega)
      · have _q : True := trivial
        refine jx_if_ne (pc' := 18) (tg := 27) rfl rfl rfl (by decide) (by decide) (fun h191 => ?_) (fun h191 => ?_)
        · have _q := h191
          exact absurd h191 (by omega)
        · have _q := h191
          refine jx_ld (pc' := 19) (l' := [(0, .ref 66)]) (st' := [.ref 66]) rfl (jl_aloadn rfl) ?_
          refine jx_ar (pc' := 21) (st' := [.int (i32 (16)), .ref 66]) rfl rfl rfl rfl ?_
          refine jx_vr (pc' := 24) (as := [.int (i32 (16))]) (st := []) rfl rfl rfl rfl ⟨rfl, rfl, Nat.le_of_ble_eq_true rfl⟩ rfl rfl (c_isKey (dd := d) (hd := by omega) (hW := hW) (k := 16) (tk := tk0) (e_tk := show G 11 = tk0 from (e_tk0)) (tn := G 13) (e_tn := show G 13 = G 13 from rfl)  (h_k := ⟨(by decide), (by decide)⟩)  ) (fun o V' hq => ?_)
          obtain ⟨r192, rfl, rfl, b193, q194⟩ := hq
          refine .inr ⟨_, rfl, ?_⟩
          rcases q194 with ⟨rfl, a195, a196, a197⟩ | rfl
          · have _q : True := trivial
            refine jx_if_eq (pc' := 27) (tg := 62) rfl rfl rfl (by decide) (by decide) (fun h198 => ?_) (fun h198 => ?_)
            · have _q := h198
              exact absurd h198 (by omega)
            · have _q := h198
              refine jx_ld (pc' := 28) (l' := [(0, .ref 66)]) (st' := [.ref 66]) rfl (jl_aloadn rfl) ?_
              refine jx_ar (pc' := 30) (st' := [.int (i32 (45)), .ref 66]) rfl rfl rfl rfl ?_
              refine jx_vr (pc' := 33) (as := [.int (i32 (45))]) (st := []) rfl rfl rfl rfl ⟨rfl, rfl, Nat.le_of_ble_eq_true rfl⟩ rfl rfl (c_is (dd := d) (hd := by omega) (hW := hW) (k := 45) (tk := tk0) (e_tk := show G 11 = tk0 from (e_tk0)) (tn := G 13) (e_tn := show G 13 = G 13 from rfl)  (h_k := ⟨(by decide), (by decide)⟩)  ) (fun o V' hq => ?_)
              obtain ⟨r199, rfl, rfl, b200, q201⟩ := hq
              refine .inr ⟨_, rfl, ?_⟩
              rcases q201 with ⟨rfl, a202, a203, a204⟩ | rfl
              · have _q : True := trivial
                refine jx_if_eq (pc' := 36) (tg := 40) rfl rfl rfl (by decide) (by decide) (fun h205 => ?_) (fun h205 => ?_)
                · have _q := h205
                  exact absurd h205 (by omega)
                · have _q := h205
                  refine jx_ar (pc' := 37) (st' := [.int (i32 (5))]) rfl rfl rfl rfl ?_
                  refine jx_go (tg := 42) rfl rfl ?_
                  refine jx_ld (pc' := 43) (l' := jSto1 [(0, .ref 66)] 1 (.int (i32 (5)))) (st' := []) rfl rfl ?_
                  obtain ⟨L206, eL206⟩ : ∃ q, q = jSto1 [(0, .ref 66)] 1 (.int (i32 (5))) := ⟨_, rfl⟩
                  rw [← eL206]
                  have gL206_0 : jGet L206 0 = some (.ref 66) := eL206 ▸ jg_ne (by decide) (rfl : jGet [(0, .ref 66)] 0 = some (.ref 66)) rfl
                  have gL206_1 : jGet L206 1 = some (.int (i32 (5))) := eL206 ▸ jg_eq
                  refine jx_ld (pc' := 44) (l' := L206) (st' := [.ref 66]) rfl (jl_aloadn gL206_0) ?_
                  refine jx_vr (pc' := 47) (as := []) (st := []) rfl rfl rfl rfl ⟨rfl, rfl, Nat.le_of_ble_eq_true rfl⟩ rfl rfl (c_next (dd := d) (hd := by omega) (hW := hW)  (ln := ln) (e_ln := show G 9 = ln from (e_ln)) (le := le) (e_le := show A 4 (ln).toNat = le from (e_le)) (at0 := at0) (e_at0 := show G 10 = at0 from (e_at0))    (p_0 := by omega)) (fun o V' hq => ?_)
                  obtain ⟨G207, A208, at2_209, tk2_210, rfl, rfl, hW211, hF212, e213, e214, p215, p216, p217, -⟩ := hq
                  have hF219 := Fr_tr hF0 hF212 (Fr_sub (by decide)) (Fr_sub (by decide))
                  have hP220 := Pf_f hP0 hF212 (by decide)
                  have bat2_209 : (0 : Int) ≤ at2_209 ∧ at2_209 ≤ 3002 := e213 ▸ hW211.1 10
                  have ztk2_210 := tz_b tk2_210
                  have btk2_210 : (0 : Int) ≤ tk2_210 ∧ tk2_210 ≤ 5 := e214 ▸ hW211.1 11
                  refine .inl ⟨rfl, ?_⟩
                  refine jx_ld (pc' := 48) (l' := L206) (st' := [.ref 66]) rfl (jl_aloadn gL206_0) ?_
                  refine jx_vr (pc' := 51) (as := []) (st := []) rfl rfl rfl rfl ⟨rfl, rfl, Nat.le_of_ble_eq_true rfl⟩ rfl rfl (c_readOperand (dd := d) (hE := hE) (hd := by omega) (hW := hW211)  (ln := ln) (e_ln := show G207 9 = ln from ((hF212.1 9 rfl).trans (e_ln))) (le := le) (e_le := show A208 4 (ln).toNat = le from (congrFun (hF212.2 4 rfl) _).trans (e_le)) (at0 := at2_209) (e_at0 := show G207 10 = at2_209 from (e213)) (fk := fk) (e_fk := show G207 16 = fk from ((hF212.1 16 rfl).trans (e_fk))) (op0 := op0) (e_op0 := show G207 15 = op0 from ((hF212.1 15 rfl).trans (e_op0))) (nd := nd) (e_nd := show G207 31 = nd from ((hF212.1 31 rfl).trans (e_nd))) (tk0 := tk2_210) (e_tk0 := show G207 11 = tk2_210 from (e214)) (i_SV := (SV_ext ((hF212.1 29 rfl)) ((hF212.2 14 rfl)) i_SV))   (p_0 := by omega) (p_1 := by omega) (p_2 := by omega) (p_3 := by omega) (p_4 := by omega) (p_5 := by omega)) (fun o V' hq => ?_)
                  obtain ⟨G221, A222, r223, at2_224, fk2_225, op2_226, nd2_227, tk2_228, rfl, rfl, hW229, hF230, hQ231, b232, e233, e234, e235, e236, e237, p238, p239, p240, p241, p242, p243, q244⟩ := hq
                  have hF245 := Fr_tr hF219 hF230 (Fr_sub (by decide)) (Fr_sub (by decide))
                  have hP246 := Pf_tr hP220 hQ231 (by omega)
                  have bat2_224 : (0 : Int) ≤ at2_224 ∧ at2_224 ≤ 3002 := e233 ▸ hW229.1 10
                  have bfk2_225 : (0 : Int) ≤ fk2_225 ∧ fk2_225 ≤ 6 := e234 ▸ hW229.1 16
                  have bop2_226 : (-2147483648 : Int) ≤ op2_226 ∧ op2_226 ≤ 2147483647 := e235 ▸ hW229.1 15
                  have bnd2_227 : (0 : Int) ≤ nd2_227 ∧ nd2_227 ≤ 6999 := e236 ▸ hW229.1 31
                  have ztk2_228 := tz_b tk2_228
                  have btk2_228 : (0 : Int) ≤ tk2_228 ∧ tk2_228 ≤ 5 := e237 ▸ hW229.1 11
                  refine .inr ⟨_, rfl, ?_⟩
                  rcases q244 with ⟨a247, a248, a249, a250, a251, a252⟩ | ⟨a253, a254, a255⟩ | ⟨a256, a257, a258, a259⟩
                  · have _q : True := trivial
                    exfalso
                    omega
                  · have _q : True := trivial
                    refine jx_ld (pc' := 52) (l' := jSto1 L206 2 (.int (i32 (r223)))) (st' := []) rfl rfl ?_
                    obtain ⟨L260, eL260⟩ : ∃ q, q = jSto1 L206 2 (.int (i32 (r223))) := ⟨_, rfl⟩
                    rw [← eL260]
                    have gL260_0 : jGet L260 0 = some (.ref 66) := eL260 ▸ jg_ne (by decide) gL206_0 rfl
                    have gL260_1 : jGet L260 1 = some (.int (i32 (5))) := eL260 ▸ jg_ne (by decide) gL206_1 rfl
                    have gL260_2 : jGet L260 2 = some (.int (i32 (r223))) := eL260 ▸ jg_eq
                    refine jx_ld (pc' := 53) (l' := L260) (st' := [.ref 66]) rfl (jl_aloadn gL260_0) ?_
                    refine jx_ld (pc' := 54) (l' := L260) (st' := [.int (i32 (5)), .ref 66]) rfl (jl_iloadn gL260_1) ?_
                    refine jx_ld (pc' := 55) (l' := L260) (st' := [.int (i32 (r223)), .int (i32 (5)), .ref 66]) rfl (jl_iloadn gL260_2) ?_
                    refine jx_ar (pc' := 56) (st' := [.int (i32 (0)), .int (i32 (r223)), .int (i32 (5)), .ref 66]) rfl rfl rfl rfl ?_
                    refine jx_ar (pc' := 57) (st' := [.int (i32 (0)), .int (i32 (0)), .int (i32 (r223)), .int (i32 (5)), .ref 66]) rfl rfl rfl rfl ?_
                    refine jx_ar (pc' := 58) (st' := [.int (i32 (0)), .int (i32 (0)), .int (i32 (0)), .int (i32 (r223)), .int (i32 (5)), .ref 66]) rfl rfl rfl rfl ?_
                    refine jx_vr (pc' := 61) (as := [.int (i32 (5)), .int (i32 (r223)), .int (i32 (0)), .int (i32 (0)), .int (i32 (0))]) (st := []) rfl rfl rfl rfl ⟨rfl, rfl, Nat.le_of_ble_eq_true rfl⟩ rfl rfl (c_node (dd := d) (hd := by omega) (hW := hW229) (kind := 5) (a := r223) (b := 0) (c := 0) (e := 0) (nd := nd2_227) (e_nd := show G221 31 = nd2_227 from (e236))  (h_kind := ⟨(by decide), (by decide)⟩) (h_a := ⟨(Int.le_trans (by decide : (-2147483648 : Int) ≤ -2147483648) b232.1), (Int.le_trans b232.2 (by decide : (2147483647 : Int) ≤ 2147483647))⟩) (h_b := ⟨(by decide), (by decide)⟩) (h_c := ⟨(by decide), (by decide)⟩) (h_e := ⟨(by decide), (by decide)⟩)  (p_0 := by omega) (p_1 := by omega)) (fun o V' hq => ?_)
                    obtain ⟨G261, A262, nd2_263, rfl, rfl, hW264, hF265, hQ266, e267, p268, p269, -⟩ := hq
                    have hF271 := Fr_tr hF245 hF265 (Fr_sub (by decide)) (Fr_sub (by decide))
                    have hP272 := Pf_tr hP246 hQ266 (by omega)
                    have bnd2_263 : (0 : Int) ≤ nd2_263 ∧ nd2_263 ≤ 6999 := e267 ▸ hW264.1 31
                    refine .inr ⟨_, rfl, ?_⟩
                    refine jx_rt (v := some (.int (i32 (nd2_227)))) rfl rfl rfl rfl rfl rfl ?_
                    have z273 := tz_f (tk2_228)
                    exact ⟨_, _, _, at2_224, fk2_225, op2_226, nd2_263, tk2_228, rfl, rfl, hW264, hF271, hP272, by omega, ((hF265.1 10 rfl).trans (e233)), ((hF265.1 16 rfl).trans (e234)), ((hF265.1 15 rfl).trans (e235)), (e267), ((hF265.1 11 rfl).trans (e237)), by omega, by omega, by omega, by omega, by omega, by omega, by first | exact Or.inr (Or.inl (⟨by omega, by omega, by omega⟩))⟩
                  · have _q : True := trivial
                    refine jx_ld (pc' := 52) (l' := jSto1 L206 2 (.int (i32 (r223)))) (st' := []) rfl rfl ?_
                    obtain ⟨L274, eL274⟩ : ∃ q, q = jSto1 L206 2 (.int (i32 (r223))) := ⟨_, rfl⟩
                    rw [← eL274]
                    have gL274_0 : jGet L274 0 = some (.ref 66) := eL274 ▸ jg_ne (by decide) gL206_0 rfl
                    have gL274_1 : jGet L274 1 = some (.int (i32 (5))) := eL274 ▸ jg_ne (by decide) gL206_1 rfl
                    have gL274_2 : jGet L274 2 = some (.int (i32 (r223))) := eL274 ▸ jg_eq
                    refine jx_ld (pc' := 53) (l' := L274) (st' := [.ref 66]) rfl (jl_aloadn gL274_0) ?_
                    refine jx_ld (pc' := 54) (l' := L274) (st' := [.int (i32 (5)), .ref 66]) rfl (jl_iloadn gL274_1) ?_
                    refine jx_ld (pc' := 55) (l' := L274) (st' := [.int (i32 (r223)), .int (i32 (5)), .ref 66]) rfl (jl_iloadn gL274_2) ?_
                    refine jx_ar (pc' := 56) (st' := [.int (i32 (0)), .int (i32 (r223)), .int (i32 (5)), .ref 66]) rfl rfl rfl rfl ?_
                    refine jx_ar (pc' := 57) (st' := [.int (i32 (0)), .int (i32 (0)), .int (i32 (r223)), .int (i32 (5)), .ref 66]) rfl rfl rfl rfl ?_
                    refine jx_ar (pc' := 58) (st' := [.int (i32 (0)), .int (i32 (0)), .int (i32 (0)), .int (i32 (r223)), .int (i32 (5)), .ref 66]) rfl rfl rfl rfl ?_
                    refine jx_vr (pc' := 61) (as := [.int (i32 (5)), .int (i32 (r223)), .int (i32 (0)), .int (i32 (0)), .int (i32 (0))]) (st := []) rfl rfl rfl rfl ⟨rfl, rfl, Nat.le_of_ble_eq_true rfl⟩ rfl rfl (c_node (dd := d) (hd := by omega) (hW := hW229) (kind := 5) (a := r223) (b := 0) (c := 0) (e := 0) (nd := nd2_227) (e_nd := show G221 31 = nd2_227 from (e236))  (h_kind := ⟨(by decide), (by decide)⟩) (h_a := ⟨(Int.le_trans (by decide : (-2147483648 : Int) ≤ -2147483648) b232.1), (Int.le_trans b232.2 (by decide : (2147483647 : Int) ≤ 2147483647))⟩) (h_b := ⟨(by decide), (by decide)⟩) (h_c := ⟨(by decide), (by decide)⟩) (h_e := ⟨(by decide), (by decide)⟩)  (p_0 := by omega) (p_1 := by omega)) (fun o V' hq => ?_)
                    obtain ⟨G275, A276, nd2_277, rfl, rfl, hW278, hF279, hQ280, e281, p282, p283, -⟩ := hq
                    have hF285 := Fr_tr hF245 hF279 (Fr_sub (by decide)) (Fr_sub (by decide))
                    have hP286 := Pf_tr hP246 hQ280 (by omega)
                    have sf287 : wE A276 Vs sb (2 * k + 3) (r223) (nd) (nd2_227) := wE_ag (by omega) (Sg_fr hF279 (by decide)) (Ag_pf hQ280 (by omega)) a259
                    have bnd2_277 : (0 : Int) ≤ nd2_277 ∧ nd2_277 ≤ 6999 := e281 ▸ hW278.1 31
                    refine .inr ⟨_, rfl, ?_⟩
                    refine jx_rt (v := some (.int (i32 (nd2_227)))) rfl rfl rfl rfl rfl rfl ?_
                    have z288 := tz_f (tk2_228)
                    exact ⟨_, _, _, at2_224, fk2_225, op2_226, nd2_277, tk2_228, rfl, rfl, hW278, hF285, hP286, by omega, ((hF279.1 10 rfl).trans (e233)), ((hF279.1 16 rfl).trans (e234)), ((hF279.1 15 rfl).trans (e235)), (e281), ((hF279.1 11 rfl).trans (e237)), by omega, by omega, by omega, by omega, by omega, by omega, by first | exact Or.inr (Or.inr ((⟨by omega, by omega, by omega, (wE_one p283 (by omega) (by omega) (by omega) (wE_mono (by omega) (by omega) (by omega) sf287))⟩)))⟩
              · have _q : True := trivial
                refine jx_if_eq (pc' := 36) (tg := 40) rfl rfl rfl (by decide) (by decide) (fun h289 => ?_) (fun h289 => ?_)
                · have _q := h289
                  refine jx_ar (pc' := 42) (st' := [.int (i32 (6))]) rfl rfl rfl rfl ?_
                  refine jx_ld (pc' := 43) (l' := jSto1 [(0, .ref 66)] 1 (.int (i32 (6)))) (st' := []) rfl rfl ?_
                  obtain ⟨L290, eL290⟩ : ∃ q, q = jSto1 [(0, .ref 66)] 1 (.int (i32 (6))) := ⟨_, rfl⟩
                  rw [← eL290]
                  have gL290_0 : jGet L290 0 = some (.ref 66) := eL290 ▸ jg_ne (by decide) (rfl : jGet [(0, .ref 66)] 0 = some (.ref 66)) rfl
                  have gL290_1 : jGet L290 1 = some (.int (i32 (6))) := eL290 ▸ jg_eq
                  refine jx_ld (pc' := 44) (l' := L290) (st' := [.ref 66]) rfl (jl_aloadn gL290_0) ?_
                  refine jx_vr (pc' := 47) (as := []) (st := []) rfl rfl rfl rfl ⟨rfl, rfl, Nat.le_of_ble_eq_true rfl⟩ rfl rfl (c_next (dd := d) (hd := by omega) (hW := hW)  (ln := ln) (e_ln := show G 9 = ln from (e_ln)) (le := le) (e_le := show A 4 (ln).toNat = le from (e_le)) (at0 := at0) (e_at0 := show G 10 = at0 from (e_at0))    (p_0 := by omega)) (fun o V' hq => ?_)
                  obtain ⟨G291, A292, at2_293, tk2_294, rfl, rfl, hW295, hF296, e297, e298, p299, p300, p301, -⟩ := hq
                  have hF303 := Fr_tr hF0 hF296 (Fr_sub (by decide)) (Fr_sub (by decide))
                  have hP304 := Pf_f hP0 hF296 (by decide)
                  have bat2_293 : (0 : Int) ≤ at2_293 ∧ at2_293 ≤ 3002 := e297 ▸ hW295.1 10
                  have ztk2_294 := tz_b tk2_294
                  have btk2_294 : (0 : Int) ≤ tk2_294 ∧ tk2_294 ≤ 5 := e298 ▸ hW295.1 11
                  refine .inl ⟨rfl, ?_⟩
                  refine jx_ld (pc' := 48) (l' := L290) (st' := [.ref 66]) rfl (jl_aloadn gL290_0) ?_
                  refine jx_vr (pc' := 51) (as := []) (st := []) rfl rfl rfl rfl ⟨rfl, rfl, Nat.le_of_ble_eq_true rfl⟩ rfl rfl (c_readOperand (dd := d) (hE := hE) (hd := by omega) (hW := hW295)  (ln := ln) (e_ln := show G291 9 = ln from ((hF296.1 9 rfl).trans (e_ln))) (le := le) (e_le := show A292 4 (ln).toNat = le from (congrFun (hF296.2 4 rfl) _).trans (e_le)) (at0 := at2_293) (e_at0 := show G291 10 = at2_293 from (e297)) (fk := fk) (e_fk := show G291 16 = fk from ((hF296.1 16 rfl).trans (e_fk))) (op0 := op0) (e_op0 := show G291 15 = op0 from ((hF296.1 15 rfl).trans (e_op0))) (nd := nd) (e_nd := show G291 31 = nd from ((hF296.1 31 rfl).trans (e_nd))) (tk0 := tk2_294) (e_tk0 := show G291 11 = tk2_294 from (e298)) (i_SV := (SV_ext ((hF296.1 29 rfl)) ((hF296.2 14 rfl)) i_SV))   (p_0 := by omega) (p_1 := by omega) (p_2 := by omega) (p_3 := by omega) (p_4 := by omega) (p_5 := by omega)) (fun o V' hq => ?_)
                  obtain ⟨G305, A306, r307, at2_308, fk2_309, op2_310, nd2_311, tk2_312, rfl, rfl, hW313, hF314, hQ315, b316, e317, e318, e319, e320, e321, p322, p323, p324, p325, p326, p327, q328⟩ := hq
                  have hF329 := Fr_tr hF303 hF314 (Fr_sub (by decide)) (Fr_sub (by decide))
                  have hP330 := Pf_tr hP304 hQ315 (by omega)
                  have bat2_308 : (0 : Int) ≤ at2_308 ∧ at2_308 ≤ 3002 := e317 ▸ hW313.1 10
                  have bfk2_309 : (0 : Int) ≤ fk2_309 ∧ fk2_309 ≤ 6 := e318 ▸ hW313.1 16
                  have bop2_310 : (-2147483648 : Int) ≤ op2_310 ∧ op2_310 ≤ 2147483647 := e319 ▸ hW313.1 15
                  have bnd2_311 : (0 : Int) ≤ nd2_311 ∧ nd2_311 ≤ 6999 := e320 ▸ hW313.1 31
                  have ztk2_312 := tz_b tk2_312
                  have btk2_312 : (0 : Int) ≤ tk2_312 ∧ tk2_312 ≤ 5 := e321 ▸ hW313.1 11
                  refine .inr ⟨_, rfl, ?_⟩
                  rcases q328 with ⟨a331, a332, a333, a334, a335, a336⟩ | ⟨a337, a338, a339⟩ | ⟨a340, a341, a342, a343⟩
                  · have _q : True := trivial
                    exfalso
                    omega
                  · have _q : True := trivial
                    refine jx_ld (pc' := 52) (l' := jSto1 L290 2 (.int (i32 (r307)))) (st' := []) rfl rfl ?_
                    obtain ⟨L344, eL344⟩ : ∃ q, q = jSto1 L290 2 (.int (i32 (r307))) := ⟨_, rfl⟩
                    rw [← eL344]
                    have gL344_0 : jGet L344 0 = some (.ref 66) := eL344 ▸ jg_ne (by decide) gL290_0 rfl
                    have gL344_1 : jGet L344 1 = some (.int (i32 (6))) := eL344 ▸ jg_ne (by decide) gL290_1 rfl
                    have gL344_2 : jGet L344 2 = some (.int (i32 (r307))) := eL344 ▸ jg_eq
                    refine jx_ld (pc' := 53) (l' := L344) (st' := [.ref 66]) rfl (jl_aloadn gL344_0) ?_
                    refine jx_ld (pc' := 54) (l' := L344) (st' := [.int (i32 (6)), .ref 66]) rfl (jl_iloadn gL344_1) ?_
                    refine jx_ld (pc' := 55) (l' := L344) (st' := [.int (i32 (r307)), .int (i32 (6)), .ref 66]) rfl (jl_iloadn gL344_2) ?_
                    refine jx_ar (pc' := 56) (st' := [.int (i32 (0)), .int (i32 (r307)), .int (i32 (6)), .ref 66]) rfl rfl rfl rfl ?_
                    refine jx_ar (pc' := 57) (st' := [.int (i32 (0)), .int (i32 (0)), .int (i32 (r307)), .int (i32 (6)), .ref 66]) rfl rfl rfl rfl ?_
                    refine jx_ar (pc' := 58) (st' := [.int (i32 (0)), .int (i32 (0)), .int (i32 (0)), .int (i32 (r307)), .int (i32 (6)), .ref 66]) rfl rfl rfl rfl ?_
                    refine jx_vr (pc' := 61) (as := [.int (i32 (6)), .int (i32 (r307)), .int (i32 (0)), .int (i32 (0)), .int (i32 (0))]) (st := []) rfl rfl rfl rfl ⟨rfl, rfl, Nat.le_of_ble_eq_true rfl⟩ rfl rfl (c_node (dd := d) (hd := by omega) (hW := hW313) (kind := 6) (a := r307) (b := 0) (c := 0) (e := 0) (nd := nd2_311) (e_nd := show G305 31 = nd2_311 from (e320))  (h_kind := ⟨(by decide), (by decide)⟩) (h_a := ⟨(Int.le_trans (by decide : (-2147483648 : Int) ≤ -2147483648) b316.1), (Int.le_trans b316.2 (by decide : (2147483647 : Int) ≤ 2147483647))⟩) (h_b := ⟨(by decide), (by decide)⟩) (h_c := ⟨(by decide), (by decide)⟩) (h_e := ⟨(by decide), (by decide)⟩)  (p_0 := by omega) (p_1 := by omega)) (fun o V' hq => ?_)
                    obtain ⟨G345, A346, nd2_347, rfl, rfl, hW348, hF349, hQ350, e351, p352, p353, -⟩ := hq
                    have hF355 := Fr_tr hF329 hF349 (Fr_sub (by decide)) (Fr_sub (by decide))
                    have hP356 := Pf_tr hP330 hQ350 (by omega)
                    have bnd2_347 : (0 : Int) ≤ nd2_347 ∧ nd2_347 ≤ 6999 := e351 ▸ hW348.1 31
                    refine .inr ⟨_, rfl, ?_⟩
                    refine jx_rt (v := some (.int (i32 (nd2_311)))) rfl rfl rfl rfl rfl rfl ?_
                    have z357 := tz_f (tk2_312)
                    exact ⟨_, _, _, at2_308, fk2_309, op2_310, nd2_347, tk2_312, rfl, rfl, hW348, hF355, hP356, by omega, ((hF349.1 10 rfl).trans (e317)), ((hF349.1 16 rfl).trans (e318)), ((hF349.1 15 rfl).trans (e319)), (e351), ((hF349.1 11 rfl).trans (e321)), by omega, by omega, by omega, by omega, by omega, by omega, by first | exact Or.inr (Or.inl (⟨by omega, by omega, by omega⟩))⟩
                  · have _q : True := trivial
                    refine jx_ld (pc' := 52) (l' := jSto1 L290 2 (.int (i32 (r307)))) (st' := []) rfl rfl ?_
                    obtain ⟨L358, eL358⟩ : ∃ q, q = jSto1 L290 2 (.int (i32 (r307))) := ⟨_, rfl⟩
                    rw [← eL358]
                    have gL358_0 : jGet L358 0 = some (.ref 66) := eL358 ▸ jg_ne (by decide) gL290_0 rfl
                    have gL358_1 : jGet L358 1 = some (.int (i32 (6))) := eL358 ▸ jg_ne (by decide) gL290_1 rfl
                    have gL358_2 : jGet L358 2 = some (.int (i32 (r307))) := eL358 ▸ jg_eq
                    refine jx_ld (pc' := 53) (l' := L358) (st' := [.ref 66]) rfl (jl_aloadn gL358_0) ?_
                    refine jx_ld (pc' := 54) (l' := L358) (st' := [.int (i32 (6)), .ref 66]) rfl (jl_iloadn gL358_1) ?_
                    refine jx_ld (pc' := 55) (l' := L358) (st' := [.int (i32 (r307)), .int (i32 (6)), .ref 66]) rfl (jl_iloadn gL358_2) ?_
                    refine jx_ar (pc' := 56) (st' := [.int (i32 (0)), .int (i32 (r307)), .int (i32 (6)), .ref 66]) rfl rfl rfl rfl ?_
                    refine jx_ar (pc' := 57) (st' := [.int (i32 (0)), .int (i32 (0)), .int (i32 (r307)), .int (i32 (6)), .ref 66]) rfl rfl rfl rfl ?_
                    refine jx_ar (pc' := 58) (st' := [.int (i32 (0)), .int (i32 (0)), .int (i32 (0)), .int (i32 (r307)), .int (i32 (6)), .ref 66]) rfl rfl rfl rfl ?_
                    refine jx_vr (pc' := 61) (as := [.int (i32 (6)), .int (i32 (r307)), .int (i32 (0)), .int (i32 (0)), .int (i32 (0))]) (st := []) rfl rfl rfl rfl ⟨rfl, rfl, Nat.le_of_ble_eq_true rfl⟩ rfl rfl (c_node (dd := d) (hd := by omega) (hW := hW313) (kind := 6) (a := r307) (b := 0) (c := 0) (e := 0) (nd := nd2_311) (e_nd := show G305 31 = nd2_311 from (e320))  (h_kind := ⟨(by decide), (by decide)⟩) (h_a := ⟨(Int.le_trans (by decide : (-2147483648 : Int) ≤ -2147483648) b316.1), (Int.le_trans b316.2 (by decide : (2147483647 : Int) ≤ 2147483647))⟩) (h_b := ⟨(by decide), (by decide)⟩) (h_c := ⟨(by decide), (by decide)⟩) (h_e := ⟨(by decide), (by decide)⟩)  (p_0 := by omega) (p_1 := by omega)) (fun o V' hq => ?_)
                    obtain ⟨G359, A360, nd2_361, rfl, rfl, hW362, hF363, hQ364, e365, p366, p367, -⟩ := hq
                    have hF369 := Fr_tr hF329 hF363 (Fr_sub (by decide)) (Fr_sub (by decide))
                    have hP370 := Pf_tr hP330 hQ364 (by omega)
                    have sf371 : wE A360 Vs sb (2 * k + 3) (r307) (nd) (nd2_311) := wE_ag (by omega) (Sg_fr hF363 (by decide)) (Ag_pf hQ364 (by omega)) a343
                    have bnd2_361 : (0 : Int) ≤ nd2_361 ∧ nd2_361 ≤ 6999 := e365 ▸ hW362.1 31
                    refine .inr ⟨_, rfl, ?_⟩
                    refine jx_rt (v := some (.int (i32 (nd2_311)))) rfl rfl rfl rfl rfl rfl ?_
                    have z372 := tz_f (tk2_312)
                    exact ⟨_, _, _, at2_308, fk2_309, op2_310, nd2_361, tk2_312, rfl, rfl, hW362, hF369, hP370, by omega, ((hF363.1 10 rfl).trans (e317)), ((hF363.1 16 rfl).trans (e318)), ((hF363.1 15 rfl).trans (e319)), (e365), ((hF363.1 11 rfl).trans (e321)), by omega, by omega, by omega, by omega, by omega, by omega, by first | exact Or.inr (Or.inr ((⟨by omega, by omega, by omega, (wE_one p367 (by omega) (by omega) (by omega) (wE_mono (by omega) (by omega) (by omega) sf371))⟩)))⟩
                · have _q := h289
                  exact absurd h289 (by omega)
          · have _q : True := trivial
            refine jx_if_eq (pc' := 27) (tg := 62) rfl rfl rfl (by decide) (by decide) (fun h373 => ?_) (fun h373 => ?_)
            · have _q := h373
              refine jx_ld (pc' := 63) (l' := [(0, .ref 66)]) (st' := [.ref 66]) rfl (jl_aloadn rfl) ?_
              refine jx_ld (pc' := 64) (l' := [(0, .ref 66)]) (st' := [.ref 66, .ref 66]) rfl (jl_aloadn rfl) ?_
              refine jx_vr (pc' := 67) (as := []) (st := [.ref 66]) rfl rfl rfl rfl ⟨rfl, rfl, Nat.le_of_ble_eq_true rfl⟩ rfl rfl (c_readOperand (dd := d) (hE := hE) (hd := by omega) (hW := hW)  (ln := ln) (e_ln := show G 9 = ln from (e_ln)) (le := le) (e_le := show A 4 (ln).toNat = le from (e_le)) (at0 := at0) (e_at0 := show G 10 = at0 from (e_at0)) (fk := fk) (e_fk := show G 16 = fk from (e_fk)) (op0 := op0) (e_op0 := show G 15 = op0 from (e_op0)) (nd := nd) (e_nd := show G 31 = nd from (e_nd)) (tk0 := tk0) (e_tk0 := show G 11 = tk0 from (e_tk0)) (i_SV := (SV_ext (rfl) (rfl) i_SV))   (p_0 := by omega) (p_1 := by omega) (p_2 := by omega) (p_3 := by omega) (p_4 := by omega) (p_5 := by omega)) (fun o V' hq => ?_)
              obtain ⟨G374, A375, r376, at2_377, fk2_378, op2_379, nd2_380, tk2_381, rfl, rfl, hW382, hF383, hQ384, b385, e386, e387, e388, e389, e390, p391, p392, p393, p394, p395, p396, q397⟩ := hq
              have hF398 := Fr_tr hF0 hF383 (Fr_sub (by decide)) (Fr_sub (by decide))
              have hP399 := Pf_tr hP0 hQ384 (by omega)
              have bat2_377 : (0 : Int) ≤ at2_377 ∧ at2_377 ≤ 3002 := e386 ▸ hW382.1 10
              have bfk2_378 : (0 : Int) ≤ fk2_378 ∧ fk2_378 ≤ 6 := e387 ▸ hW382.1 16
              have bop2_379 : (-2147483648 : Int) ≤ op2_379 ∧ op2_379 ≤ 2147483647 := e388 ▸ hW382.1 15
              have bnd2_380 : (0 : Int) ≤ nd2_380 ∧ nd2_380 ≤ 6999 := e389 ▸ hW382.1 31
              have ztk2_381 := tz_b tk2_381
              have btk2_381 : (0 : Int) ≤ tk2_381 ∧ tk2_381 ≤ 5 := e390 ▸ hW382.1 11
              refine .inr ⟨_, rfl, ?_⟩
              rcases q397 with ⟨a400, a401, a402, a403, a404, a405⟩ | ⟨a406, a407, a408⟩ | ⟨a409, a410, a411, a412⟩
              · have _q : True := trivial
                exfalso
                omega
              · have _q : True := trivial
                refine jx_vr (pc' := 70) (as := [.int (i32 (r376))]) (st := []) rfl rfl rfl rfl ⟨rfl, rfl, Nat.le_of_ble_eq_true rfl⟩ rfl rfl (c_readRest (dd := d) (hE := hE) (hd := by omega) (hW := hW382) (x := r376) (lo := nd) (ln := ln) (e_ln := show G374 9 = ln from ((hF383.1 9 rfl).trans (e_ln))) (le := le) (e_le := show A375 4 (ln).toNat = le from (congrFun (hF383.2 4 rfl) _).trans (e_le)) (at0 := at2_377) (e_at0 := show G374 10 = at2_377 from (e386)) (fk := fk2_378) (e_fk := show G374 16 = fk2_378 from (e387)) (op0 := op2_379) (e_op0 := show G374 15 = op2_379 from (e388)) (nd := nd2_380) (e_nd := show G374 31 = nd2_380 from (e389)) (tk0 := tk2_381) (e_tk0 := show G374 11 = tk2_381 from (e390)) (i_SV := (SV_ext ((hF383.1 29 rfl)) ((hF383.2 14 rfl)) i_SV)) (h_x := ⟨(Int.le_trans (by decide : (-2147483648 : Int) ≤ -2147483648) b385.1), (Int.le_trans b385.2 (by decide : (2147483647 : Int) ≤ 2147483647))⟩)  (p_0 := by omega) (p_1 := by omega) (p_2 := by omega) (p_3 := by omega) (p_4 := by omega) (p_5 := by omega) (p_6 := by omega) (p_7 := by omega) (p_8 := by omega) (p_9 := (fun q => absurd q (by omega)))) (fun o V' hq => ?_)
                obtain ⟨G413, A414, r415, at2_416, fk2_417, op2_418, nd2_419, tk2_420, rfl, rfl, hW421, hF422, hQ423, b424, e425, e426, e427, e428, e429, p430, p431, p432, p433, p434, p435, q436⟩ := hq
                have hF437 := Fr_tr hF398 hF422 (Fr_sub (by decide)) (Fr_sub (by decide))
                have hP438 := Pf_tr hP399 hQ423 (by omega)
                have bat2_416 : (0 : Int) ≤ at2_416 ∧ at2_416 ≤ 3002 := e425 ▸ hW421.1 10
                have bfk2_417 : (0 : Int) ≤ fk2_417 ∧ fk2_417 ≤ 6 := e426 ▸ hW421.1 16
                have bop2_418 : (-2147483648 : Int) ≤ op2_418 ∧ op2_418 ≤ 2147483647 := e427 ▸ hW421.1 15
                have bnd2_419 : (0 : Int) ≤ nd2_419 ∧ nd2_419 ≤ 6999 := e428 ▸ hW421.1 31
                have ztk2_420 := tz_b tk2_420
                have btk2_420 : (0 : Int) ≤ tk2_420 ∧ tk2_420 ≤ 5 := e429 ▸ hW421.1 11
                refine .inr ⟨_, rfl, ?_⟩
                rcases q436 with ⟨a439, a440, a441, a442, a443, a444⟩ | ⟨a445, a446, a447⟩ | ⟨a448, a449, a450, a451⟩
                · have _q : True := trivial
                  refine jx_rt (v := some (.int (i32 (r415)))) rfl rfl rfl rfl rfl rfl ?_
                  have z452 := tz_f (tk2_420)
                  exact ⟨_, _, _, at2_416, fk2_417, op2_418, nd2_419, tk2_420, rfl, rfl, hW421, hF437, hP438, by omega, (e425), (e426), (e427), (e428), (e429), by omega, by omega, by omega, by omega, by omega, by omega, by first | exact Or.inr (Or.inl (⟨by omega, by omega, by omega⟩))⟩
                · have _q : True := trivial
                  exfalso
                  omega
                · have _q : True := trivial
                  exfalso
                  omega
              · have _q : True := trivial
                refine jx_vr (pc' := 70) (as := [.int (i32 (r376))]) (st := []) rfl rfl rfl rfl ⟨rfl, rfl, Nat.le_of_ble_eq_true rfl⟩ rfl rfl (c_readRest (dd := d) (hE := hE) (hd := by omega) (hW := hW382) (x := r376) (lo := nd) (ln := ln) (e_ln := show G374 9 = ln from ((hF383.1 9 rfl).trans (e_ln))) (le := le) (e_le := show A375 4 (ln).toNat = le from (congrFun (hF383.2 4 rfl) _).trans (e_le)) (at0 := at2_377) (e_at0 := show G374 10 = at2_377 from (e386)) (fk := fk2_378) (e_fk := show G374 16 = fk2_378 from (e387)) (op0 := op2_379) (e_op0 := show G374 15 = op2_379 from (e388)) (nd := nd2_380) (e_nd := show G374 31 = nd2_380 from (e389)) (tk0 := tk2_381) (e_tk0 := show G374 11 = tk2_381 from (e390)) (i_SV := (SV_ext ((hF383.1 29 rfl)) ((hF383.2 14 rfl)) i_SV)) (h_x := ⟨(Int.le_trans (by decide : (-2147483648 : Int) ≤ -2147483648) b385.1), (Int.le_trans b385.2 (by decide : (2147483647 : Int) ≤ 2147483647))⟩)  (p_0 := by omega) (p_1 := by omega) (p_2 := by omega) (p_3 := by omega) (p_4 := by omega) (p_5 := by omega) (p_6 := by omega) (p_7 := by omega) (p_8 := by omega) (p_9 := (fun _ => a412))) (fun o V' hq => ?_)
                obtain ⟨G453, A454, r455, at2_456, fk2_457, op2_458, nd2_459, tk2_460, rfl, rfl, hW461, hF462, hQ463, b464, e465, e466, e467, e468, e469, p470, p471, p472, p473, p474, p475, q476⟩ := hq
                have hF477 := Fr_tr hF398 hF462 (Fr_sub (by decide)) (Fr_sub (by decide))
                have hP478 := Pf_tr hP399 hQ463 (by omega)
                have sf479 : wE A454 Vs sb (2 * k + 3) (r376) (nd) (nd2_380) := wE_ag (by omega) (Sg_fr hF462 (by decide)) (Ag_pf hQ463 (by omega)) a412
                have bat2_456 : (0 : Int) ≤ at2_456 ∧ at2_456 ≤ 3002 := e465 ▸ hW461.1 10
                have bfk2_457 : (0 : Int) ≤ fk2_457 ∧ fk2_457 ≤ 6 := e466 ▸ hW461.1 16
                have bop2_458 : (-2147483648 : Int) ≤ op2_458 ∧ op2_458 ≤ 2147483647 := e467 ▸ hW461.1 15
                have bnd2_459 : (0 : Int) ≤ nd2_459 ∧ nd2_459 ≤ 6999 := e468 ▸ hW461.1 31
                have ztk2_460 := tz_b tk2_460
                have btk2_460 : (0 : Int) ≤ tk2_460 ∧ tk2_460 ≤ 5 := e469 ▸ hW461.1 11
                refine .inr ⟨_, rfl, ?_⟩
                rcases q476 with ⟨a480, a481, a482, a483, a484, a485⟩ | ⟨a486, a487, a488⟩ | ⟨a489, a490, a491, a492⟩
                · have _q : True := trivial
                  exfalso
                  omega
                · have _q : True := trivial
                  refine jx_rt (v := some (.int (i32 (r455)))) rfl rfl rfl rfl rfl rfl ?_
                  have z493 := tz_f (tk2_460)
                  exact ⟨_, _, _, at2_456, fk2_457, op2_458, nd2_459, tk2_460, rfl, rfl, hW461, hF477, hP478, by omega, (e465), (e466), (e467), (e468), (e469), by omega, by omega, by omega, by omega, by omega, by omega, by first | exact Or.inr (Or.inl (⟨by omega, by omega, by omega⟩))⟩
                · have _q : True := trivial
                  refine jx_rt (v := some (.int (i32 (r455)))) rfl rfl rfl rfl rfl rfl ?_
                  have z494 := tz_f (tk2_460)
                  exact ⟨_, _, _, at2_456, fk2_457, op2_458, nd2_459, tk2_460, rfl, rfl, hW461, hF477, hP478, by omega, (e465), (e466), (e467), (e468), (e469), by omega, by omega, by omega, by omega, by omega, by omega, by first | exact Or.inr (Or.inr ((⟨by omega, by omega, by omega, (wE_mono (by omega) (by omega) (by omega) a492)⟩)))⟩
            · have _q := h373
              exact absurd h373 (by omega)
    · have _q := h8
      exact absurd h8 (by omega)
set_option maxRecDepth 20000 in
set_option maxHeartbeats 4000000 in
theorem c_readE_0 {X : jX} {dd : Nat} {Vs : Nat → Prop} {sb : Int} {c0 c1 : jC} {G : Nat → Int} {A : Nat → Nat → Int} {T : jH} {ln le at0 fk op0 nd tk0 : Int} (hd : 6 * 0 + 10 ≤ dd) (hW : Wk G A) (e_ln : G 9 = ln) (e_le : A 4 (ln).toNat = le) (e_at0 : G 10 = at0) (e_fk : G 16 = fk) (e_op0 : G 15 = op0) (e_nd : G 31 = nd) (e_tk0 : G 11 = tk0) (i_SV : SV Vs sb G A) (p_0 : 0 ≤ op0) (p_1 : op0 ≤ 9) (p_2 : op0 ≤ 8 ∨ 1 ≤ fk) (p_3 : 9 - op0 ≤ ((0 : Nat) : Int) ∨ 1 ≤ fk) (p_4 : nd ≤ 2 * at0 - tz tk0 + 50) (p_5 : at0 ≤ le) : wk X dd 286 [.ref 66] (rV c0 c1 G A T) (fun o V' => ∃ (G' : Nat → Int) (A' : Nat → Nat → Int) (r : Int) (at2 : Int) (fk2 : Int) (op2 : Int) (nd2 : Int) (tk2 : Int), V' = rV c0 c1 G' A' T ∧ o = .inl (some (.int (i32 r))) ∧ Wk G' A' ∧ Fr [10, 11, 12, 13, 14, 15, 16, 17, 18, 31] [15, 16, 17, 18, 19, 20, 21, 22, 24, 28] G A G' A' ∧ Pf nd A A' ∧ ((-2147483648 : Int) ≤ r ∧ r ≤ 2147483647) ∧ G' 10 = at2 ∧ G' 16 = fk2 ∧ G' 15 = op2 ∧ G' 31 = nd2 ∧ G' 11 = tk2 ∧ (at0 ≤ at2) ∧ (at2 ≤ le) ∧ (nd ≤ nd2) ∧ (op2 = op0) ∧ (0 ≤ r) ∧ (r ≤ nd2) ∧ (((1 ≤ fk) ∧ (1 ≤ fk2) ∧ (nd2 = nd) ∧ (at2 = at0) ∧ (tk2 = tk0) ∧ (tz tk2 = tz tk0)) ∨ ((fk = 0) ∧ (1 ≤ fk2) ∧ (nd2 - nd ≤ (2 * at2 - tz tk2) - (2 * at0 - tz tk0) + 1)) ∨ ((fk = 0) ∧ (fk2 = 0) ∧ (nd2 - nd ≤ (2 * at2 - tz tk2) - (2 * at0 - tz tk0)) ∧ (wE A' Vs sb (2 * 0 + 2) (r) (nd) (nd2))))) := by
  obtain ⟨d, rfl⟩ : ∃ d, dd = d + 1 := ⟨dd - 1, by omega⟩
  refine wk_of (e := jm286) rfl (Nat.le_of_ble_eq_true rfl) ?_
  show wj X d jm286 (0, [(0, .ref 66)], [], rV c0 c1 G A T) _
  have hF0 : Fr [10, 11, 12, 13, 14, 15, 16, 17, 18, 31] [15, 16, 17, 18, 19, 20, 21, 22, 24, 28] G A G A := Fr_rf
  have hP0 : Pf nd A A := Pf_rf
  have b_ln : (0 : Int) ≤ ln ∧ ln ≤ 3000 := e_ln ▸ hW.1 9
  have b_le : (0 : Int) ≤ le ∧ le ≤ 3000 := e_le ▸ hW.2 4 _
  have b_at0 : (0 : Int) ≤ at0 ∧ at0 ≤ 3002 := e_at0 ▸ hW.1 10
  have b_fk : (0 : Int) ≤ fk ∧ fk ≤ 6 := e_fk ▸ hW.1 16
  have b_op0 : (-2147483648 : Int) ≤ op0 ∧ op0 ≤ 2147483647 := e_op0 ▸ hW.1 15
  have b_nd : (0 : Int) ≤ nd ∧ nd ≤ 6999 := e_nd ▸ hW.1 31
  have z_tk0 := tz_f tk0
  have b_tk0 : (0 : Int) ≤ tk0 ∧ tk0 ≤ 5 := e_tk0 ▸ hW.1 11
  refine jx_ld (pc' := 1) (l' := [(0, .ref 66)]) (st' := [.ref 66]) rfl (jl_aloadn rfl) ?_
  refine jx_vr (pc' := 4) (as := []) (st := []) rfl rfl rfl rfl ⟨rfl, rfl, Nat.le_of_ble_eq_true rfl⟩ rfl rfl (c_bad (dd := d) (hd := by omega) (hW := hW)  (fk := fk) (e_fk := show G 16 = fk from (e_fk))    ) (fun o V' hq => ?_)
  obtain ⟨r1, rfl, rfl, b2, q3⟩ := hq
  refine .inr ⟨_, rfl, ?_⟩
  rcases q3 with ⟨rfl, a4⟩ | ⟨rfl, a5⟩
  · have _q : True := trivial
    refine jx_if_eq (pc' := 7) (tg := 9) rfl rfl rfl (by decide) (by decide) (fun h6 => ?_) (fun h6 => ?_)
    · have _q := h6
      exact absurd h6 (by omega)
    · have _q := h6
      refine jx_ar (pc' := 8) (st' := [.int (i32 (0))]) rfl rfl rfl rfl ?_
      refine jx_rt (v := some (.int (i32 (0)))) rfl rfl rfl rfl rfl rfl ?_
      have z7 := tz_f (tk0)
      exact ⟨_, _, _, at0, fk, op0, nd, tk0, rfl, rfl, hW, hF0, hP0, by omega, (e_at0), (e_fk), (e_op0), (e_nd), (e_tk0), by omega, by omega, by omega, by omega, by omega, by omega, by first | exact Or.inl (⟨by omega, by omega, by omega, by omega, by omega, by omega⟩)⟩
  · have _q : True := trivial
    refine jx_if_eq (pc' := 7) (tg := 9) rfl rfl rfl (by decide) (by decide) (fun h8 => ?_) (fun h8 => ?_)
    · have _q := h8
      exfalso
      omega
    · have _q := h8
      exact absurd h8 (by omega)
theorem RE_all (X : jX) : ∀ k, RE X k
  | 0 => @c_readE_0 X
  | k + 1 => @c_readE_s X k (RE_all X k)

