def REw (X : jX) (k : Nat) : Prop := ∀ ⦃dd : Nat⦄ ⦃Vs : Nat → Prop⦄ ⦃sb : Int⦄ ⦃c0 c1 : jC⦄ ⦃G : Nat → Int⦄ ⦃A : Nat → Nat → Int⦄ ⦃T : jH⦄ ⦃ln le at0 fk op0 nd tk0 ec sy : Int⦄ (hd : 6 * k + 10 ≤ dd) (hW : Wk G A) (e_ln : G 9 = ln) (e_le : A 4 (ln).toNat = le) (e_at0 : G 10 = at0) (e_fk : G 16 = fk) (e_op0 : G 15 = op0) (e_nd : G 31 = nd) (e_tk0 : G 11 = tk0) (e_ec : ecn A (G 31) = ec) (e_sy : G 19 = sy) (i_SV : SV Vs sb G A) (p_0 : 0 ≤ op0) (p_1 : op0 ≤ 9) (p_2 : op0 ≤ 8 ∨ 1 ≤ fk) (p_3 : 9 - op0 ≤ (k : Int) ∨ 1 ≤ fk) (p_4 : nd ≤ 2 * at0 - tz tk0 + 50) (p_5 : at0 ≤ le), wk X dd 286 [.ref 66] (rV c0 c1 G A T) (fun o V_q => ∃ (G_q : Nat → Int) (A_q : Nat → Nat → Int) (r : Int) (at2 : Int) (fk2 : Int) (op2 : Int) (nd2 : Int) (tk2 : Int) (ec2 : Int), V_q = rV c0 c1 G_q A_q T ∧ o = .inl (some (.int (i32 r))) ∧ Wk G_q A_q ∧ Fr [10, 11, 12, 13, 14, 15, 16, 17, 18, 31] [15, 16, 17, 18, 19, 20, 21, 22, 24, 28] G A G_q A_q ∧ Pf nd A A_q ∧ ((-2147483648 : Int) ≤ r ∧ r ≤ 2147483647) ∧ G_q 10 = at2 ∧ G_q 16 = fk2 ∧ G_q 15 = op2 ∧ G_q 31 = nd2 ∧ G_q 11 = tk2 ∧ ecn A_q (G_q 31) = ec2 ∧ (at0 ≤ at2) ∧ (at2 ≤ le) ∧ (nd ≤ nd2) ∧ (op2 = op0) ∧ (0 ≤ r) ∧ (r ≤ nd2) ∧ (((1 ≤ fk) ∧ (1 ≤ fk2) ∧ (nd2 = nd) ∧ (at2 = at0) ∧ (tk2 = tk0) ∧ (tz tk2 = tz tk0)) ∨ ((fk = 0) ∧ (1 ≤ fk2) ∧ (nd2 - nd ≤ (2 * at2 - tz tk2) - (2 * at0 - tz tk0) + 1)) ∨ ((fk = 0) ∧ (fk2 = 0) ∧ (nd2 - nd ≤ (2 * at2 - tz tk2) - (2 * at0 - tz tk0)) ∧ (wE A_q Vs sb (2 * k + 2) (r) (nd) (nd2)) ∧ (nd2 - nd + 5 * (ec2 - ec) ≤ (2 * at2 - tz tk2) - (2 * at0 - tz tk0) - tz tk2) ∧ (NdM A_q (nd) (nd2) (sy)) ∧ (r + 1 = nd2) ∧ (tz tk0 = 1))))
set_option maxRecDepth 20000 in
set_option maxHeartbeats 4000000 in
theorem c_readIndex_w {X : jX} {k : Nat} (hE : REw X k) {dd : Nat} {Vs : Nat → Prop} {sb : Int} {c0 c1 : jC} {G : Nat → Int} {A : Nat → Nat → Int} {T : jH} {ln le at0 fk op0 nd tk0 ec sy : Int} (hd : 6 * k + 12 ≤ dd) (hW : Wk G A) (e_ln : G 9 = ln) (e_le : A 4 (ln).toNat = le) (e_at0 : G 10 = at0) (e_fk : G 16 = fk) (e_op0 : G 15 = op0) (e_nd : G 31 = nd) (e_tk0 : G 11 = tk0) (e_ec : ecn A (G 31) = ec) (e_sy : G 19 = sy) (i_SV : SV Vs sb G A) (p_0 : 0 ≤ op0) (p_1 : op0 ≤ 9) (p_2 : op0 ≤ 8 ∨ 1 ≤ fk) (p_3 : 9 - op0 ≤ ((k + 1 : Nat) : Int) ∨ 1 ≤ fk) (p_4 : nd ≤ 2 * at0 - tz tk0 + 50) (p_5 : at0 ≤ le) (p_6 : 1 ≤ tk0) (p_7 : op0 ≤ 8) (p_8 : fk = 0) : wk X dd 284 [.ref 66] (rV c0 c1 G A T) (fun o V_q => ∃ (G_q : Nat → Int) (A_q : Nat → Nat → Int) (r : Int) (at2 : Int) (fk2 : Int) (op2 : Int) (nd2 : Int) (tk2 : Int) (ec2 : Int), V_q = rV c0 c1 G_q A_q T ∧ o = .inl (some (.int (i32 r))) ∧ Wk G_q A_q ∧ Fr [10, 11, 12, 13, 14, 15, 16, 17, 18, 31] [15, 16, 17, 18, 19, 20, 21, 22, 24, 28] G A G_q A_q ∧ Pf nd A A_q ∧ ((-2147483648 : Int) ≤ r ∧ r ≤ 2147483647) ∧ G_q 10 = at2 ∧ G_q 16 = fk2 ∧ G_q 15 = op2 ∧ G_q 31 = nd2 ∧ G_q 11 = tk2 ∧ ecn A_q (G_q 31) = ec2 ∧ (at0 ≤ at2) ∧ (at2 ≤ le) ∧ (nd ≤ nd2) ∧ (op2 = op0) ∧ (0 ≤ r) ∧ (r ≤ nd2) ∧ (((fk = 0) ∧ (1 ≤ fk2) ∧ (nd2 - nd ≤ (2 * at2 - tz tk2) - (2 * at0 - tz tk0) + 1)) ∨ ((fk = 0) ∧ (fk2 = 0) ∧ (nd2 - nd ≤ (2 * at2 - tz tk2) - (2 * at0 - tz tk0)) ∧ (wE A_q Vs sb (2 * k + 2) (r) (nd) (nd2)) ∧ (nd2 - nd + 5 * (ec2 - ec) ≤ (2 * at2 - tz tk2) - (2 * at0 - tz tk0) - 4 - tz tk2) ∧ (NdM A_q (nd) (nd2) (sy)) ∧ (r + 1 = nd2)))) := by
  obtain ⟨d, rfl⟩ : ∃ d, dd = d + 1 := ⟨dd - 1, by omega⟩
  refine wk_of (e := jm284) rfl (Nat.le_of_ble_eq_true rfl) ?_
  show wj X d jm284 (0, [(0, .ref 66)], [], rV c0 c1 G A T) _
  have hF0 : Fr [10, 11, 12, 13, 14, 15, 16, 17, 18, 31] [15, 16, 17, 18, 19, 20, 21, 22, 24, 28] G A G A := Fr_rf
  have hP0 : Pf nd A A := Pf_rf
  have b_ln : (0 : Int) ≤ ln ∧ ln ≤ 3000 := e_ln ▸ hW.1 9
  have b_le : (0 : Int) ≤ le ∧ le ≤ 3000 := e_le ▸ hW.2 4 _
  have b_at0 : (0 : Int) ≤ at0 ∧ at0 ≤ 3002 := e_at0 ▸ hW.1 10
  have b_fk : (0 : Int) ≤ fk ∧ fk ≤ 6 := e_fk ▸ hW.1 16
  have b_op0 : (-2147483648 : Int) ≤ op0 ∧ op0 ≤ 2147483647 := e_op0 ▸ hW.1 15
  have b_nd : (0 : Int) ≤ nd ∧ nd ≤ 6999 := e_nd ▸ hW.1 31
  have z_tk0 := tz_f tk0
  have b_tk0 : (0 : Int) ≤ tk0 ∧ tk0 ≤ 5 := e_tk0 ▸ hW.1 11
  have b_sy : (0 : Int) ≤ sy ∧ sy ≤ 202 := e_sy ▸ hW.1 19
  refine jx_ld (pc_q := 1) (l_q := [(0, .ref 66)]) (st_q := [.ref 66]) rfl (jl_aloadn rfl) ?_
  refine jx_vr (pc_q := 4) (as := []) (st := []) rfl rfl rfl rfl ⟨rfl, rfl, Nat.le_of_ble_eq_true rfl⟩ rfl rfl (c_open (dd := d) (hd := by omega) (hW := hW)  (fk := fk) (e_fk := show G 16 = fk from (e_fk)) (op0 := op0) (e_op0 := show G 15 = op0 from (e_op0))    (p_0 := by omega)) (fun o V_q hq => ?_)
  obtain ⟨G1, A2, fk2_3, op2_4, rfl, rfl, hW5, hF6, e7, e8, p9, q10⟩ := hq
  have hF11 := Fr_tr hF0 hF6 (Fr_sub (by decide)) (Fr_sub (by decide))
  have hP12 := Pf_f hP0 hF6 (by decide)
  have ec13 : ecn A2 (G1 31) = ec := (ecn_f (hF6.2 15 rfl) (hF6.1 31 rfl)).trans e_ec
  have bfk2_3 : (0 : Int) ≤ fk2_3 ∧ fk2_3 ≤ 6 := e7 ▸ hW5.1 16
  have bop2_4 : (-2147483648 : Int) ≤ op2_4 ∧ op2_4 ≤ 2147483647 := e8 ▸ hW5.1 15
  refine .inl ⟨rfl, ?_⟩
  rcases q10 with a14 | ⟨a15, a16, a17⟩
  · have _q : True := trivial
    refine jx_ld (pc_q := 5) (l_q := [(0, .ref 66)]) (st_q := [.ref 66]) rfl (jl_aloadn rfl) ?_
    refine jx_ar (pc_q := 6) (st_q := [.int (i32 (1)), .ref 66]) rfl rfl rfl rfl ?_
    refine jx_vr (pc_q := 9) (as := [.int (i32 (1))]) (st := []) rfl rfl rfl rfl ⟨rfl, rfl, Nat.le_of_ble_eq_true rfl⟩ rfl rfl (c_need (dd := d) (hd := by omega) (hW := hW5) (g := 1) (ln := ln) (e_ln := show G1 9 = ln from ((hF6.1 9 rfl).trans (e_ln))) (le := le) (e_le := show A2 4 (ln).toNat = le from (congrFun (hF6.2 4 rfl) _).trans (e_le)) (at0 := at0) (e_at0 := show G1 10 = at0 from ((hF6.1 10 rfl).trans (e_at0))) (fk := fk2_3) (e_fk := show G1 16 = fk2_3 from (e7)) (tk0 := tk0) (e_tk0 := show G1 11 = tk0 from ((hF6.1 11 rfl).trans (e_tk0)))  (h_g := ⟨(by decide), (by decide)⟩)  (p_0 := by omega)) (fun o V_q hq => ?_)
    obtain ⟨G18, A19, at2_20, tk2_21, fk2_22, rfl, rfl, hW23, hF24, e25, e26, e27, p28, p29, q30⟩ := hq
    have hF31 := Fr_tr hF11 hF24 (Fr_sub (by decide)) (Fr_sub (by decide))
    have hP32 := Pf_f hP12 hF24 (by decide)
    have ec33 : ecn A19 (G18 31) = ec := (ecn_f (hF24.2 15 rfl) (hF24.1 31 rfl)).trans ec13
    have bat2_20 : (0 : Int) ≤ at2_20 ∧ at2_20 ≤ 3002 := e25 ▸ hW23.1 10
    have ztk2_21 := tz_b tk2_21
    have btk2_21 : (0 : Int) ≤ tk2_21 ∧ tk2_21 ≤ 5 := e26 ▸ hW23.1 11
    have bfk2_22 : (0 : Int) ≤ fk2_22 ∧ fk2_22 ≤ 6 := e27 ▸ hW23.1 16
    refine .inl ⟨rfl, ?_⟩
    rcases q30 with ⟨a34, a35, a36, a37⟩ | ⟨a38, a39, a40, a41⟩
    · have _q : True := trivial
      refine jx_ld (pc_q := 10) (l_q := [(0, .ref 66)]) (st_q := [.ref 66]) rfl (jl_aloadn rfl) ?_
      refine jx_vr (pc_q := 13) (as := []) (st := []) rfl rfl rfl rfl ⟨rfl, rfl, Nat.le_of_ble_eq_true rfl⟩ rfl rfl (hE (dd := d) (hd := by omega) (hW := hW23)  (ln := ln) (e_ln := show G18 9 = ln from ((hF24.1 9 rfl).trans ((hF6.1 9 rfl).trans (e_ln)))) (le := le) (e_le := show A19 4 (ln).toNat = le from (congrFun ((hF24.2 4 rfl).trans (hF6.2 4 rfl)) _).trans (e_le)) (at0 := at2_20) (e_at0 := show G18 10 = at2_20 from (e25)) (fk := fk2_22) (e_fk := show G18 16 = fk2_22 from (e27)) (op0 := op2_4) (e_op0 := show G18 15 = op2_4 from ((hF24.1 15 rfl).trans (e8))) (nd := nd) (e_nd := show G18 31 = nd from ((hF24.1 31 rfl).trans ((hF6.1 31 rfl).trans (e_nd)))) (tk0 := tk2_21) (e_tk0 := show G18 11 = tk2_21 from (e26)) (ec := ec) (e_ec := show ecn A19 (G18 31) = ec from ec33) (sy := sy) (e_sy := show G18 19 = sy from ((hF24.1 19 rfl).trans ((hF6.1 19 rfl).trans (e_sy)))) (i_SV := (SV_ext (((hF24.1 29 rfl).trans (hF6.1 29 rfl))) (((hF24.2 14 rfl).trans (hF6.2 14 rfl))) i_SV))   (p_0 := by omega) (p_1 := by omega) (p_2 := by omega) (p_3 := by omega) (p_4 := by omega) (p_5 := by omega)) (fun o V_q hq => ?_)
      obtain ⟨G42, A43, r44, at2_45, fk2_46, op2_47, nd2_48, tk2_49, ec2_50, rfl, rfl, hW51, hF52, hQ53, b54, e55, e56, e57, e58, e59, e60, p61, p62, p63, p64, p65, p66, q67⟩ := hq
      have hF68 := Fr_tr hF31 hF52 (Fr_sub (by decide)) (Fr_sub (by decide))
      have hP69 := Pf_tr hP32 hQ53 (by omega)
      have bat2_45 : (0 : Int) ≤ at2_45 ∧ at2_45 ≤ 3002 := e55 ▸ hW51.1 10
      have bfk2_46 : (0 : Int) ≤ fk2_46 ∧ fk2_46 ≤ 6 := e56 ▸ hW51.1 16
      have bop2_47 : (-2147483648 : Int) ≤ op2_47 ∧ op2_47 ≤ 2147483647 := e57 ▸ hW51.1 15
      have bnd2_48 : (0 : Int) ≤ nd2_48 ∧ nd2_48 ≤ 6999 := e58 ▸ hW51.1 31
      have ztk2_49 := tz_b tk2_49
      have btk2_49 : (0 : Int) ≤ tk2_49 ∧ tk2_49 ≤ 5 := e59 ▸ hW51.1 11
      refine .inr ⟨_, rfl, ?_⟩
      rcases q67 with ⟨a70, a71, a72, a73, a74, a75⟩ | ⟨a76, a77, a78⟩ | ⟨a79, a80, a81, a82, a83, a84, a85, a86⟩
      · have _q : True := trivial
        refine jx_ld (pc_q := 14) (l_q := jSto1 [(0, .ref 66)] 1 (.int (i32 (r44)))) (st_q := []) rfl rfl ?_
        obtain ⟨L87, eL87⟩ : ∃ q, q = jSto1 [(0, .ref 66)] 1 (.int (i32 (r44))) := ⟨_, rfl⟩
        rw [← eL87]
        have gL87_0 : jGet L87 0 = some (.ref 66) := eL87 ▸ jg_ne (by decide) (rfl : jGet [(0, .ref 66)] 0 = some (.ref 66)) rfl
        have gL87_1 : jGet L87 1 = some (.int (i32 (r44))) := eL87 ▸ jg_eq
        refine jx_ld (pc_q := 15) (l_q := L87) (st_q := [.ref 66]) rfl (jl_aloadn gL87_0) ?_
        refine jx_ld (pc_q := 16) (l_q := L87) (st_q := [.ref 66, .ref 66]) rfl (jl_aloadn gL87_0) ?_
        refine jx_ar (pc_q := 18) (st_q := [.int (i32 (93)), .ref 66, .ref 66]) rfl rfl rfl rfl ?_
        have b88 : (-2147483648 : Int) ≤ G42 13 ∧ G42 13 ≤ 2147483647 := hW51.1 13
        refine jx_vr (pc_q := 21) (as := [.int (i32 (93))]) (st := [.ref 66]) rfl rfl rfl rfl ⟨rfl, rfl, Nat.le_of_ble_eq_true rfl⟩ rfl rfl (c_is (dd := d) (hd := by omega) (hW := hW51) (k := 93) (tk := tk2_49) (e_tk := show G42 11 = tk2_49 from (e59)) (tn := G42 13) (e_tn := show G42 13 = G42 13 from rfl)  (h_k := ⟨(by decide), (by decide)⟩)  ) (fun o V_q hq => ?_)
        obtain ⟨r89, rfl, rfl, b90, q91⟩ := hq
        refine .inr ⟨_, rfl, ?_⟩
        rcases q91 with ⟨rfl, a92, a93, a94⟩ | rfl
        · have _q : True := trivial
          refine jx_vr (pc_q := 24) (as := [.int (i32 (1))]) (st := []) rfl rfl rfl rfl ⟨rfl, rfl, Nat.le_of_ble_eq_true rfl⟩ rfl rfl (c_need (dd := d) (hd := by omega) (hW := hW51) (g := 1) (ln := ln) (e_ln := show G42 9 = ln from ((hF52.1 9 rfl).trans ((hF24.1 9 rfl).trans ((hF6.1 9 rfl).trans (e_ln))))) (le := le) (e_le := show A43 4 (ln).toNat = le from (congrFun ((hF52.2 4 rfl).trans ((hF24.2 4 rfl).trans (hF6.2 4 rfl))) _).trans (e_le)) (at0 := at2_45) (e_at0 := show G42 10 = at2_45 from (e55)) (fk := fk2_46) (e_fk := show G42 16 = fk2_46 from (e56)) (tk0 := tk2_49) (e_tk0 := show G42 11 = tk2_49 from (e59))  (h_g := ⟨(by decide), (by decide)⟩)  (p_0 := by omega)) (fun o V_q hq => ?_)
          obtain ⟨G95, A96, at2_97, tk2_98, fk2_99, rfl, rfl, hW100, hF101, e102, e103, e104, p105, p106, q107⟩ := hq
          have hF108 := Fr_tr hF68 hF101 (Fr_sub (by decide)) (Fr_sub (by decide))
          have hP109 := Pf_f hP69 hF101 (by decide)
          have ec110 : ecn A96 (G95 31) = ec2_50 := (ecn_f (hF101.2 15 rfl) (hF101.1 31 rfl)).trans e60
          have bat2_97 : (0 : Int) ≤ at2_97 ∧ at2_97 ≤ 3002 := e102 ▸ hW100.1 10
          have ztk2_98 := tz_b tk2_98
          have btk2_98 : (0 : Int) ≤ tk2_98 ∧ tk2_98 ≤ 5 := e103 ▸ hW100.1 11
          have bfk2_99 : (0 : Int) ≤ fk2_99 ∧ fk2_99 ≤ 6 := e104 ▸ hW100.1 16
          refine .inl ⟨rfl, ?_⟩
          rcases q107 with ⟨a111, a112, a113, a114⟩ | ⟨a115, a116, a117, a118⟩
          · have _q : True := trivial
            refine jx_ld (pc_q := 25) (l_q := L87) (st_q := [.ref 66]) rfl (jl_aloadn gL87_0) ?_
            refine jx_ar (pc_q := 26) (st_q := [.ref 66, .ref 66]) rfl rfl rfl rfl ?_
            refine jr_get (pc_q := 29) (i := 15) (v := .int (i32 (op2_47))) rfl rfl (by decide) (rFv_eq (by decide) (show G95 15 = op2_47 from ((hF101.1 15 rfl).trans (e57)))) rfl ?_
            refine jx_ar (pc_q := 30) (st_q := [.int (i32 (1)), .int (i32 (op2_47)), .ref 66]) rfl rfl rfl rfl ?_
            refine jx_sub (pc_q := 31) rfl rfl ?_
            refine jr_put (pc_q := 34) (i := 15) (z := (op2_47 - 1)) rfl rfl (by decide) rfl rfl rfl rfl rfl rfl ?_
            have hW119 : Wk (uG G95 15 ((op2_47 - 1))) A96 := Wk_g hW100 (show (-2147483648 : Int) ≤ (op2_47 - 1) by omega) (show (op2_47 - 1) ≤ (2147483647 : Int) by omega)
            have hF120 := Fr_g (z := (op2_47 - 1)) (i := 15) hF108 (by decide)
            have ec121 : ecn A96 ((uG G95 15 ((op2_47 - 1))) 31) = ec2_50 := ec110
            refine jx_ld (pc_q := 35) (l_q := L87) (st_q := [.int (i32 (r44))]) rfl (jl_iloadn gL87_1) ?_
            refine jx_rt (v := some (.int (i32 (r44)))) rfl rfl rfl rfl rfl rfl ?_
            have z122 := tz_f (tk2_98)
            exact ⟨_, _, _, at2_97, fk2_99, (op2_47 - 1), nd2_48, tk2_98, ec2_50, rfl, rfl, hW119, hF120, hP109, by omega, (e102), (e104), rfl, ((hF101.1 31 rfl).trans (e58)), (e103), ec121, by omega, by omega, by omega, by omega, by omega, by omega, by first | exact Or.inl (⟨by omega, by omega, by omega⟩)⟩
          · have _q : True := trivial
            exfalso
            omega
        · have _q : True := trivial
          refine jx_vr (pc_q := 24) (as := [.int (i32 (0))]) (st := []) rfl rfl rfl rfl ⟨rfl, rfl, Nat.le_of_ble_eq_true rfl⟩ rfl rfl (c_need (dd := d) (hd := by omega) (hW := hW51) (g := 0) (ln := ln) (e_ln := show G42 9 = ln from ((hF52.1 9 rfl).trans ((hF24.1 9 rfl).trans ((hF6.1 9 rfl).trans (e_ln))))) (le := le) (e_le := show A43 4 (ln).toNat = le from (congrFun ((hF52.2 4 rfl).trans ((hF24.2 4 rfl).trans (hF6.2 4 rfl))) _).trans (e_le)) (at0 := at2_45) (e_at0 := show G42 10 = at2_45 from (e55)) (fk := fk2_46) (e_fk := show G42 16 = fk2_46 from (e56)) (tk0 := tk2_49) (e_tk0 := show G42 11 = tk2_49 from (e59))  (h_g := ⟨(by decide), (by decide)⟩)  (p_0 := by omega)) (fun o V_q hq => ?_)
          obtain ⟨G123, A124, at2_125, tk2_126, fk2_127, rfl, rfl, hW128, hF129, e130, e131, e132, p133, p134, q135⟩ := hq
          have hF136 := Fr_tr hF68 hF129 (Fr_sub (by decide)) (Fr_sub (by decide))
          have hP137 := Pf_f hP69 hF129 (by decide)
          have ec138 : ecn A124 (G123 31) = ec2_50 := (ecn_f (hF129.2 15 rfl) (hF129.1 31 rfl)).trans e60
          have bat2_125 : (0 : Int) ≤ at2_125 ∧ at2_125 ≤ 3002 := e130 ▸ hW128.1 10
          have ztk2_126 := tz_b tk2_126
          have btk2_126 : (0 : Int) ≤ tk2_126 ∧ tk2_126 ≤ 5 := e131 ▸ hW128.1 11
          have bfk2_127 : (0 : Int) ≤ fk2_127 ∧ fk2_127 ≤ 6 := e132 ▸ hW128.1 16
          refine .inl ⟨rfl, ?_⟩
          rcases q135 with ⟨a139, a140, a141, a142⟩ | ⟨a143, a144, a145, a146⟩
          · have _q : True := trivial
            refine jx_ld (pc_q := 25) (l_q := L87) (st_q := [.ref 66]) rfl (jl_aloadn gL87_0) ?_
            refine jx_ar (pc_q := 26) (st_q := [.ref 66, .ref 66]) rfl rfl rfl rfl ?_
            refine jr_get (pc_q := 29) (i := 15) (v := .int (i32 (op2_47))) rfl rfl (by decide) (rFv_eq (by decide) (show G123 15 = op2_47 from ((hF129.1 15 rfl).trans (e57)))) rfl ?_
            refine jx_ar (pc_q := 30) (st_q := [.int (i32 (1)), .int (i32 (op2_47)), .ref 66]) rfl rfl rfl rfl ?_
            refine jx_sub (pc_q := 31) rfl rfl ?_
            refine jr_put (pc_q := 34) (i := 15) (z := (op2_47 - 1)) rfl rfl (by decide) rfl rfl rfl rfl rfl rfl ?_
            have hW147 : Wk (uG G123 15 ((op2_47 - 1))) A124 := Wk_g hW128 (show (-2147483648 : Int) ≤ (op2_47 - 1) by omega) (show (op2_47 - 1) ≤ (2147483647 : Int) by omega)
            have hF148 := Fr_g (z := (op2_47 - 1)) (i := 15) hF136 (by decide)
            have ec149 : ecn A124 ((uG G123 15 ((op2_47 - 1))) 31) = ec2_50 := ec138
            refine jx_ld (pc_q := 35) (l_q := L87) (st_q := [.int (i32 (r44))]) rfl (jl_iloadn gL87_1) ?_
            refine jx_rt (v := some (.int (i32 (r44)))) rfl rfl rfl rfl rfl rfl ?_
            have z150 := tz_f (tk2_126)
            exact ⟨_, _, _, at2_125, fk2_127, (op2_47 - 1), nd2_48, tk2_126, ec2_50, rfl, rfl, hW147, hF148, hP137, by omega, (e130), (e132), rfl, ((hF129.1 31 rfl).trans (e58)), (e131), ec149, by omega, by omega, by omega, by omega, by omega, by omega, by first | exact Or.inl (⟨by omega, by omega, by omega⟩)⟩
          · have _q : True := trivial
            exfalso
            omega
      · have _q : True := trivial
        exfalso
        omega
      · have _q : True := trivial
        exfalso
        omega
    · have _q : True := trivial
      exfalso
      omega
  · have _q : True := trivial
    refine jx_ld (pc_q := 5) (l_q := [(0, .ref 66)]) (st_q := [.ref 66]) rfl (jl_aloadn rfl) ?_
    refine jx_ar (pc_q := 6) (st_q := [.int (i32 (1)), .ref 66]) rfl rfl rfl rfl ?_
    refine jx_vr (pc_q := 9) (as := [.int (i32 (1))]) (st := []) rfl rfl rfl rfl ⟨rfl, rfl, Nat.le_of_ble_eq_true rfl⟩ rfl rfl (c_need (dd := d) (hd := by omega) (hW := hW5) (g := 1) (ln := ln) (e_ln := show G1 9 = ln from ((hF6.1 9 rfl).trans (e_ln))) (le := le) (e_le := show A2 4 (ln).toNat = le from (congrFun (hF6.2 4 rfl) _).trans (e_le)) (at0 := at0) (e_at0 := show G1 10 = at0 from ((hF6.1 10 rfl).trans (e_at0))) (fk := fk2_3) (e_fk := show G1 16 = fk2_3 from (e7)) (tk0 := tk0) (e_tk0 := show G1 11 = tk0 from ((hF6.1 11 rfl).trans (e_tk0)))  (h_g := ⟨(by decide), (by decide)⟩)  (p_0 := by omega)) (fun o V_q hq => ?_)
    obtain ⟨G151, A152, at2_153, tk2_154, fk2_155, rfl, rfl, hW156, hF157, e158, e159, e160, p161, p162, q163⟩ := hq
    have hF164 := Fr_tr hF11 hF157 (Fr_sub (by decide)) (Fr_sub (by decide))
    have hP165 := Pf_f hP12 hF157 (by decide)
    have ec166 : ecn A152 (G151 31) = ec := (ecn_f (hF157.2 15 rfl) (hF157.1 31 rfl)).trans ec13
    have bat2_153 : (0 : Int) ≤ at2_153 ∧ at2_153 ≤ 3002 := e158 ▸ hW156.1 10
    have ztk2_154 := tz_b tk2_154
    have btk2_154 : (0 : Int) ≤ tk2_154 ∧ tk2_154 ≤ 5 := e159 ▸ hW156.1 11
    have bfk2_155 : (0 : Int) ≤ fk2_155 ∧ fk2_155 ≤ 6 := e160 ▸ hW156.1 16
    refine .inl ⟨rfl, ?_⟩
    rcases q163 with ⟨a167, a168, a169, a170⟩ | ⟨a171, a172, a173, a174⟩
    · have _q : True := trivial
      refine jx_ld (pc_q := 10) (l_q := [(0, .ref 66)]) (st_q := [.ref 66]) rfl (jl_aloadn rfl) ?_
      refine jx_vr (pc_q := 13) (as := []) (st := []) rfl rfl rfl rfl ⟨rfl, rfl, Nat.le_of_ble_eq_true rfl⟩ rfl rfl (hE (dd := d) (hd := by omega) (hW := hW156)  (ln := ln) (e_ln := show G151 9 = ln from ((hF157.1 9 rfl).trans ((hF6.1 9 rfl).trans (e_ln)))) (le := le) (e_le := show A152 4 (ln).toNat = le from (congrFun ((hF157.2 4 rfl).trans (hF6.2 4 rfl)) _).trans (e_le)) (at0 := at2_153) (e_at0 := show G151 10 = at2_153 from (e158)) (fk := fk2_155) (e_fk := show G151 16 = fk2_155 from (e160)) (op0 := op2_4) (e_op0 := show G151 15 = op2_4 from ((hF157.1 15 rfl).trans (e8))) (nd := nd) (e_nd := show G151 31 = nd from ((hF157.1 31 rfl).trans ((hF6.1 31 rfl).trans (e_nd)))) (tk0 := tk2_154) (e_tk0 := show G151 11 = tk2_154 from (e159)) (ec := ec) (e_ec := show ecn A152 (G151 31) = ec from ec166) (sy := sy) (e_sy := show G151 19 = sy from ((hF157.1 19 rfl).trans ((hF6.1 19 rfl).trans (e_sy)))) (i_SV := (SV_ext (((hF157.1 29 rfl).trans (hF6.1 29 rfl))) (((hF157.2 14 rfl).trans (hF6.2 14 rfl))) i_SV))   (p_0 := by omega) (p_1 := by omega) (p_2 := by omega) (p_3 := by omega) (p_4 := by omega) (p_5 := by omega)) (fun o V_q hq => ?_)
      obtain ⟨G175, A176, r177, at2_178, fk2_179, op2_180, nd2_181, tk2_182, ec2_183, rfl, rfl, hW184, hF185, hQ186, b187, e188, e189, e190, e191, e192, e193, p194, p195, p196, p197, p198, p199, q200⟩ := hq
      have hF201 := Fr_tr hF164 hF185 (Fr_sub (by decide)) (Fr_sub (by decide))
      have hP202 := Pf_tr hP165 hQ186 (by omega)
      have bat2_178 : (0 : Int) ≤ at2_178 ∧ at2_178 ≤ 3002 := e188 ▸ hW184.1 10
      have bfk2_179 : (0 : Int) ≤ fk2_179 ∧ fk2_179 ≤ 6 := e189 ▸ hW184.1 16
      have bop2_180 : (-2147483648 : Int) ≤ op2_180 ∧ op2_180 ≤ 2147483647 := e190 ▸ hW184.1 15
      have bnd2_181 : (0 : Int) ≤ nd2_181 ∧ nd2_181 ≤ 6999 := e191 ▸ hW184.1 31
      have ztk2_182 := tz_b tk2_182
      have btk2_182 : (0 : Int) ≤ tk2_182 ∧ tk2_182 ≤ 5 := e192 ▸ hW184.1 11
      refine .inr ⟨_, rfl, ?_⟩
      rcases q200 with ⟨a203, a204, a205, a206, a207, a208⟩ | ⟨a209, a210, a211⟩ | ⟨a212, a213, a214, a215, a216, a217, a218, a219⟩
      · have _q : True := trivial
        refine jx_ld (pc_q := 14) (l_q := jSto1 [(0, .ref 66)] 1 (.int (i32 (r177)))) (st_q := []) rfl rfl ?_
        obtain ⟨L220, eL220⟩ : ∃ q, q = jSto1 [(0, .ref 66)] 1 (.int (i32 (r177))) := ⟨_, rfl⟩
        rw [← eL220]
        have gL220_0 : jGet L220 0 = some (.ref 66) := eL220 ▸ jg_ne (by decide) (rfl : jGet [(0, .ref 66)] 0 = some (.ref 66)) rfl
        have gL220_1 : jGet L220 1 = some (.int (i32 (r177))) := eL220 ▸ jg_eq
        refine jx_ld (pc_q := 15) (l_q := L220) (st_q := [.ref 66]) rfl (jl_aloadn gL220_0) ?_
        refine jx_ld (pc_q := 16) (l_q := L220) (st_q := [.ref 66, .ref 66]) rfl (jl_aloadn gL220_0) ?_
        refine jx_ar (pc_q := 18) (st_q := [.int (i32 (93)), .ref 66, .ref 66]) rfl rfl rfl rfl ?_
        have b221 : (-2147483648 : Int) ≤ G175 13 ∧ G175 13 ≤ 2147483647 := hW184.1 13
        refine jx_vr (pc_q := 21) (as := [.int (i32 (93))]) (st := [.ref 66]) rfl rfl rfl rfl ⟨rfl, rfl, Nat.le_of_ble_eq_true rfl⟩ rfl rfl (c_is (dd := d) (hd := by omega) (hW := hW184) (k := 93) (tk := tk2_182) (e_tk := show G175 11 = tk2_182 from (e192)) (tn := G175 13) (e_tn := show G175 13 = G175 13 from rfl)  (h_k := ⟨(by decide), (by decide)⟩)  ) (fun o V_q hq => ?_)
        obtain ⟨r222, rfl, rfl, b223, q224⟩ := hq
        refine .inr ⟨_, rfl, ?_⟩
        rcases q224 with ⟨rfl, a225, a226, a227⟩ | rfl
        · have _q : True := trivial
          refine jx_vr (pc_q := 24) (as := [.int (i32 (1))]) (st := []) rfl rfl rfl rfl ⟨rfl, rfl, Nat.le_of_ble_eq_true rfl⟩ rfl rfl (c_need (dd := d) (hd := by omega) (hW := hW184) (g := 1) (ln := ln) (e_ln := show G175 9 = ln from ((hF185.1 9 rfl).trans ((hF157.1 9 rfl).trans ((hF6.1 9 rfl).trans (e_ln))))) (le := le) (e_le := show A176 4 (ln).toNat = le from (congrFun ((hF185.2 4 rfl).trans ((hF157.2 4 rfl).trans (hF6.2 4 rfl))) _).trans (e_le)) (at0 := at2_178) (e_at0 := show G175 10 = at2_178 from (e188)) (fk := fk2_179) (e_fk := show G175 16 = fk2_179 from (e189)) (tk0 := tk2_182) (e_tk0 := show G175 11 = tk2_182 from (e192))  (h_g := ⟨(by decide), (by decide)⟩)  (p_0 := by omega)) (fun o V_q hq => ?_)
          obtain ⟨G228, A229, at2_230, tk2_231, fk2_232, rfl, rfl, hW233, hF234, e235, e236, e237, p238, p239, q240⟩ := hq
          have hF241 := Fr_tr hF201 hF234 (Fr_sub (by decide)) (Fr_sub (by decide))
          have hP242 := Pf_f hP202 hF234 (by decide)
          have ec243 : ecn A229 (G228 31) = ec2_183 := (ecn_f (hF234.2 15 rfl) (hF234.1 31 rfl)).trans e193
          have bat2_230 : (0 : Int) ≤ at2_230 ∧ at2_230 ≤ 3002 := e235 ▸ hW233.1 10
          have ztk2_231 := tz_b tk2_231
          have btk2_231 : (0 : Int) ≤ tk2_231 ∧ tk2_231 ≤ 5 := e236 ▸ hW233.1 11
          have bfk2_232 : (0 : Int) ≤ fk2_232 ∧ fk2_232 ≤ 6 := e237 ▸ hW233.1 16
          refine .inl ⟨rfl, ?_⟩
          rcases q240 with ⟨a244, a245, a246, a247⟩ | ⟨a248, a249, a250, a251⟩
          · have _q : True := trivial
            refine jx_ld (pc_q := 25) (l_q := L220) (st_q := [.ref 66]) rfl (jl_aloadn gL220_0) ?_
            refine jx_ar (pc_q := 26) (st_q := [.ref 66, .ref 66]) rfl rfl rfl rfl ?_
            refine jr_get (pc_q := 29) (i := 15) (v := .int (i32 (op2_180))) rfl rfl (by decide) (rFv_eq (by decide) (show G228 15 = op2_180 from ((hF234.1 15 rfl).trans (e190)))) rfl ?_
            refine jx_ar (pc_q := 30) (st_q := [.int (i32 (1)), .int (i32 (op2_180)), .ref 66]) rfl rfl rfl rfl ?_
            refine jx_sub (pc_q := 31) rfl rfl ?_
            refine jr_put (pc_q := 34) (i := 15) (z := (op2_180 - 1)) rfl rfl (by decide) rfl rfl rfl rfl rfl rfl ?_
            have hW252 : Wk (uG G228 15 ((op2_180 - 1))) A229 := Wk_g hW233 (show (-2147483648 : Int) ≤ (op2_180 - 1) by omega) (show (op2_180 - 1) ≤ (2147483647 : Int) by omega)
            have hF253 := Fr_g (z := (op2_180 - 1)) (i := 15) hF241 (by decide)
            have ec254 : ecn A229 ((uG G228 15 ((op2_180 - 1))) 31) = ec2_183 := ec243
            refine jx_ld (pc_q := 35) (l_q := L220) (st_q := [.int (i32 (r177))]) rfl (jl_iloadn gL220_1) ?_
            refine jx_rt (v := some (.int (i32 (r177)))) rfl rfl rfl rfl rfl rfl ?_
            have z255 := tz_f (tk2_231)
            exact ⟨_, _, _, at2_230, fk2_232, (op2_180 - 1), nd2_181, tk2_231, ec2_183, rfl, rfl, hW252, hF253, hP242, by omega, (e235), (e237), rfl, ((hF234.1 31 rfl).trans (e191)), (e236), ec254, by omega, by omega, by omega, by omega, by omega, by omega, by first | exact Or.inl (⟨by omega, by omega, by omega⟩)⟩
          · have _q : True := trivial
            exfalso
            omega
        · have _q : True := trivial
          refine jx_vr (pc_q := 24) (as := [.int (i32 (0))]) (st := []) rfl rfl rfl rfl ⟨rfl, rfl, Nat.le_of_ble_eq_true rfl⟩ rfl rfl (c_need (dd := d) (hd := by omega) (hW := hW184) (g := 0) (ln := ln) (e_ln := show G175 9 = ln from ((hF185.1 9 rfl).trans ((hF157.1 9 rfl).trans ((hF6.1 9 rfl).trans (e_ln))))) (le := le) (e_le := show A176 4 (ln).toNat = le from (congrFun ((hF185.2 4 rfl).trans ((hF157.2 4 rfl).trans (hF6.2 4 rfl))) _).trans (e_le)) (at0 := at2_178) (e_at0 := show G175 10 = at2_178 from (e188)) (fk := fk2_179) (e_fk := show G175 16 = fk2_179 from (e189)) (tk0 := tk2_182) (e_tk0 := show G175 11 = tk2_182 from (e192))  (h_g := ⟨(by decide), (by decide)⟩)  (p_0 := by omega)) (fun o V_q hq => ?_)
          obtain ⟨G256, A257, at2_258, tk2_259, fk2_260, rfl, rfl, hW261, hF262, e263, e264, e265, p266, p267, q268⟩ := hq
          have hF269 := Fr_tr hF201 hF262 (Fr_sub (by decide)) (Fr_sub (by decide))
          have hP270 := Pf_f hP202 hF262 (by decide)
          have ec271 : ecn A257 (G256 31) = ec2_183 := (ecn_f (hF262.2 15 rfl) (hF262.1 31 rfl)).trans e193
          have bat2_258 : (0 : Int) ≤ at2_258 ∧ at2_258 ≤ 3002 := e263 ▸ hW261.1 10
          have ztk2_259 := tz_b tk2_259
          have btk2_259 : (0 : Int) ≤ tk2_259 ∧ tk2_259 ≤ 5 := e264 ▸ hW261.1 11
          have bfk2_260 : (0 : Int) ≤ fk2_260 ∧ fk2_260 ≤ 6 := e265 ▸ hW261.1 16
          refine .inl ⟨rfl, ?_⟩
          rcases q268 with ⟨a272, a273, a274, a275⟩ | ⟨a276, a277, a278, a279⟩
          · have _q : True := trivial
            refine jx_ld (pc_q := 25) (l_q := L220) (st_q := [.ref 66]) rfl (jl_aloadn gL220_0) ?_
            refine jx_ar (pc_q := 26) (st_q := [.ref 66, .ref 66]) rfl rfl rfl rfl ?_
            refine jr_get (pc_q := 29) (i := 15) (v := .int (i32 (op2_180))) rfl rfl (by decide) (rFv_eq (by decide) (show G256 15 = op2_180 from ((hF262.1 15 rfl).trans (e190)))) rfl ?_
            refine jx_ar (pc_q := 30) (st_q := [.int (i32 (1)), .int (i32 (op2_180)), .ref 66]) rfl rfl rfl rfl ?_
            refine jx_sub (pc_q := 31) rfl rfl ?_
            refine jr_put (pc_q := 34) (i := 15) (z := (op2_180 - 1)) rfl rfl (by decide) rfl rfl rfl rfl rfl rfl ?_
            have hW280 : Wk (uG G256 15 ((op2_180 - 1))) A257 := Wk_g hW261 (show (-2147483648 : Int) ≤ (op2_180 - 1) by omega) (show (op2_180 - 1) ≤ (2147483647 : Int) by omega)
            have hF281 := Fr_g (z := (op2_180 - 1)) (i := 15) hF269 (by decide)
            have ec282 : ecn A257 ((uG G256 15 ((op2_180 - 1))) 31) = ec2_183 := ec271
            refine jx_ld (pc_q := 35) (l_q := L220) (st_q := [.int (i32 (r177))]) rfl (jl_iloadn gL220_1) ?_
            refine jx_rt (v := some (.int (i32 (r177)))) rfl rfl rfl rfl rfl rfl ?_
            have z283 := tz_f (tk2_259)
            exact ⟨_, _, _, at2_258, fk2_260, (op2_180 - 1), nd2_181, tk2_259, ec2_183, rfl, rfl, hW280, hF281, hP270, by omega, (e263), (e265), rfl, ((hF262.1 31 rfl).trans (e191)), (e264), ec282, by omega, by omega, by omega, by omega, by omega, by omega, by first | exact Or.inl (⟨by omega, by omega, by omega⟩)⟩
          · have _q : True := trivial
            exfalso
            omega
      · have _q : True := trivial
        exfalso
        omega
      · have _q : True := trivial
        exfalso
        omega
    · have _q : True := trivial
      have pz284 : at0 + tz tk2_154 ≤ at2_153 := by omega
      refine jx_ld (pc_q := 10) (l_q := [(0, .ref 66)]) (st_q := [.ref 66]) rfl (jl_aloadn rfl) ?_
      refine jx_vr (pc_q := 13) (as := []) (st := []) rfl rfl rfl rfl ⟨rfl, rfl, Nat.le_of_ble_eq_true rfl⟩ rfl rfl (hE (dd := d) (hd := by omega) (hW := hW156)  (ln := ln) (e_ln := show G151 9 = ln from ((hF157.1 9 rfl).trans ((hF6.1 9 rfl).trans (e_ln)))) (le := le) (e_le := show A152 4 (ln).toNat = le from (congrFun ((hF157.2 4 rfl).trans (hF6.2 4 rfl)) _).trans (e_le)) (at0 := at2_153) (e_at0 := show G151 10 = at2_153 from (e158)) (fk := fk2_155) (e_fk := show G151 16 = fk2_155 from (e160)) (op0 := op2_4) (e_op0 := show G151 15 = op2_4 from ((hF157.1 15 rfl).trans (e8))) (nd := nd) (e_nd := show G151 31 = nd from ((hF157.1 31 rfl).trans ((hF6.1 31 rfl).trans (e_nd)))) (tk0 := tk2_154) (e_tk0 := show G151 11 = tk2_154 from (e159)) (ec := ec) (e_ec := show ecn A152 (G151 31) = ec from ec166) (sy := sy) (e_sy := show G151 19 = sy from ((hF157.1 19 rfl).trans ((hF6.1 19 rfl).trans (e_sy)))) (i_SV := (SV_ext (((hF157.1 29 rfl).trans (hF6.1 29 rfl))) (((hF157.2 14 rfl).trans (hF6.2 14 rfl))) i_SV))   (p_0 := by omega) (p_1 := by omega) (p_2 := by omega) (p_3 := by omega) (p_4 := by omega) (p_5 := by omega)) (fun o V_q hq => ?_)
      obtain ⟨G285, A286, r287, at2_288, fk2_289, op2_290, nd2_291, tk2_292, ec2_293, rfl, rfl, hW294, hF295, hQ296, b297, e298, e299, e300, e301, e302, e303, p304, p305, p306, p307, p308, p309, q310⟩ := hq
      have hF311 := Fr_tr hF164 hF295 (Fr_sub (by decide)) (Fr_sub (by decide))
      have hP312 := Pf_tr hP165 hQ296 (by omega)
      have bat2_288 : (0 : Int) ≤ at2_288 ∧ at2_288 ≤ 3002 := e298 ▸ hW294.1 10
      have bfk2_289 : (0 : Int) ≤ fk2_289 ∧ fk2_289 ≤ 6 := e299 ▸ hW294.1 16
      have bop2_290 : (-2147483648 : Int) ≤ op2_290 ∧ op2_290 ≤ 2147483647 := e300 ▸ hW294.1 15
      have bnd2_291 : (0 : Int) ≤ nd2_291 ∧ nd2_291 ≤ 6999 := e301 ▸ hW294.1 31
      have ztk2_292 := tz_b tk2_292
      have btk2_292 : (0 : Int) ≤ tk2_292 ∧ tk2_292 ≤ 5 := e302 ▸ hW294.1 11
      refine .inr ⟨_, rfl, ?_⟩
      rcases q310 with ⟨a313, a314, a315, a316, a317, a318⟩ | ⟨a319, a320, a321⟩ | ⟨a322, a323, a324, a325, a326, a327, a328, a329⟩
      · have _q : True := trivial
        exfalso
        omega
      · have _q : True := trivial
        refine jx_ld (pc_q := 14) (l_q := jSto1 [(0, .ref 66)] 1 (.int (i32 (r287)))) (st_q := []) rfl rfl ?_
        obtain ⟨L330, eL330⟩ : ∃ q, q = jSto1 [(0, .ref 66)] 1 (.int (i32 (r287))) := ⟨_, rfl⟩
        rw [← eL330]
        have gL330_0 : jGet L330 0 = some (.ref 66) := eL330 ▸ jg_ne (by decide) (rfl : jGet [(0, .ref 66)] 0 = some (.ref 66)) rfl
        have gL330_1 : jGet L330 1 = some (.int (i32 (r287))) := eL330 ▸ jg_eq
        refine jx_ld (pc_q := 15) (l_q := L330) (st_q := [.ref 66]) rfl (jl_aloadn gL330_0) ?_
        refine jx_ld (pc_q := 16) (l_q := L330) (st_q := [.ref 66, .ref 66]) rfl (jl_aloadn gL330_0) ?_
        refine jx_ar (pc_q := 18) (st_q := [.int (i32 (93)), .ref 66, .ref 66]) rfl rfl rfl rfl ?_
        have b331 : (-2147483648 : Int) ≤ G285 13 ∧ G285 13 ≤ 2147483647 := hW294.1 13
        refine jx_vr (pc_q := 21) (as := [.int (i32 (93))]) (st := [.ref 66]) rfl rfl rfl rfl ⟨rfl, rfl, Nat.le_of_ble_eq_true rfl⟩ rfl rfl (c_is (dd := d) (hd := by omega) (hW := hW294) (k := 93) (tk := tk2_292) (e_tk := show G285 11 = tk2_292 from (e302)) (tn := G285 13) (e_tn := show G285 13 = G285 13 from rfl)  (h_k := ⟨(by decide), (by decide)⟩)  ) (fun o V_q hq => ?_)
        obtain ⟨r332, rfl, rfl, b333, q334⟩ := hq
        refine .inr ⟨_, rfl, ?_⟩
        rcases q334 with ⟨rfl, a335, a336, a337⟩ | rfl
        · have _q : True := trivial
          refine jx_vr (pc_q := 24) (as := [.int (i32 (1))]) (st := []) rfl rfl rfl rfl ⟨rfl, rfl, Nat.le_of_ble_eq_true rfl⟩ rfl rfl (c_need (dd := d) (hd := by omega) (hW := hW294) (g := 1) (ln := ln) (e_ln := show G285 9 = ln from ((hF295.1 9 rfl).trans ((hF157.1 9 rfl).trans ((hF6.1 9 rfl).trans (e_ln))))) (le := le) (e_le := show A286 4 (ln).toNat = le from (congrFun ((hF295.2 4 rfl).trans ((hF157.2 4 rfl).trans (hF6.2 4 rfl))) _).trans (e_le)) (at0 := at2_288) (e_at0 := show G285 10 = at2_288 from (e298)) (fk := fk2_289) (e_fk := show G285 16 = fk2_289 from (e299)) (tk0 := tk2_292) (e_tk0 := show G285 11 = tk2_292 from (e302))  (h_g := ⟨(by decide), (by decide)⟩)  (p_0 := by omega)) (fun o V_q hq => ?_)
          obtain ⟨G338, A339, at2_340, tk2_341, fk2_342, rfl, rfl, hW343, hF344, e345, e346, e347, p348, p349, q350⟩ := hq
          have hF351 := Fr_tr hF311 hF344 (Fr_sub (by decide)) (Fr_sub (by decide))
          have hP352 := Pf_f hP312 hF344 (by decide)
          have ec353 : ecn A339 (G338 31) = ec2_293 := (ecn_f (hF344.2 15 rfl) (hF344.1 31 rfl)).trans e303
          have bat2_340 : (0 : Int) ≤ at2_340 ∧ at2_340 ≤ 3002 := e345 ▸ hW343.1 10
          have ztk2_341 := tz_b tk2_341
          have btk2_341 : (0 : Int) ≤ tk2_341 ∧ tk2_341 ≤ 5 := e346 ▸ hW343.1 11
          have bfk2_342 : (0 : Int) ≤ fk2_342 ∧ fk2_342 ≤ 6 := e347 ▸ hW343.1 16
          refine .inl ⟨rfl, ?_⟩
          rcases q350 with ⟨a354, a355, a356, a357⟩ | ⟨a358, a359, a360, a361⟩
          · have _q : True := trivial
            refine jx_ld (pc_q := 25) (l_q := L330) (st_q := [.ref 66]) rfl (jl_aloadn gL330_0) ?_
            refine jx_ar (pc_q := 26) (st_q := [.ref 66, .ref 66]) rfl rfl rfl rfl ?_
            refine jr_get (pc_q := 29) (i := 15) (v := .int (i32 (op2_290))) rfl rfl (by decide) (rFv_eq (by decide) (show G338 15 = op2_290 from ((hF344.1 15 rfl).trans (e300)))) rfl ?_
            refine jx_ar (pc_q := 30) (st_q := [.int (i32 (1)), .int (i32 (op2_290)), .ref 66]) rfl rfl rfl rfl ?_
            refine jx_sub (pc_q := 31) rfl rfl ?_
            refine jr_put (pc_q := 34) (i := 15) (z := (op2_290 - 1)) rfl rfl (by decide) rfl rfl rfl rfl rfl rfl ?_
            have hW362 : Wk (uG G338 15 ((op2_290 - 1))) A339 := Wk_g hW343 (show (-2147483648 : Int) ≤ (op2_290 - 1) by omega) (show (op2_290 - 1) ≤ (2147483647 : Int) by omega)
            have hF363 := Fr_g (z := (op2_290 - 1)) (i := 15) hF351 (by decide)
            have ec364 : ecn A339 ((uG G338 15 ((op2_290 - 1))) 31) = ec2_293 := ec353
            refine jx_ld (pc_q := 35) (l_q := L330) (st_q := [.int (i32 (r287))]) rfl (jl_iloadn gL330_1) ?_
            refine jx_rt (v := some (.int (i32 (r287)))) rfl rfl rfl rfl rfl rfl ?_
            have z365 := tz_f (tk2_341)
            exact ⟨_, _, _, at2_340, fk2_342, (op2_290 - 1), nd2_291, tk2_341, ec2_293, rfl, rfl, hW362, hF363, hP352, by omega, (e345), (e347), rfl, ((hF344.1 31 rfl).trans (e301)), (e346), ec364, by omega, by omega, by omega, by omega, by omega, by omega, by first | exact Or.inl (⟨by omega, by omega, by omega⟩)⟩
          · have _q : True := trivial
            exfalso
            omega
        · have _q : True := trivial
          refine jx_vr (pc_q := 24) (as := [.int (i32 (0))]) (st := []) rfl rfl rfl rfl ⟨rfl, rfl, Nat.le_of_ble_eq_true rfl⟩ rfl rfl (c_need (dd := d) (hd := by omega) (hW := hW294) (g := 0) (ln := ln) (e_ln := show G285 9 = ln from ((hF295.1 9 rfl).trans ((hF157.1 9 rfl).trans ((hF6.1 9 rfl).trans (e_ln))))) (le := le) (e_le := show A286 4 (ln).toNat = le from (congrFun ((hF295.2 4 rfl).trans ((hF157.2 4 rfl).trans (hF6.2 4 rfl))) _).trans (e_le)) (at0 := at2_288) (e_at0 := show G285 10 = at2_288 from (e298)) (fk := fk2_289) (e_fk := show G285 16 = fk2_289 from (e299)) (tk0 := tk2_292) (e_tk0 := show G285 11 = tk2_292 from (e302))  (h_g := ⟨(by decide), (by decide)⟩)  (p_0 := by omega)) (fun o V_q hq => ?_)
          obtain ⟨G366, A367, at2_368, tk2_369, fk2_370, rfl, rfl, hW371, hF372, e373, e374, e375, p376, p377, q378⟩ := hq
          have hF379 := Fr_tr hF311 hF372 (Fr_sub (by decide)) (Fr_sub (by decide))
          have hP380 := Pf_f hP312 hF372 (by decide)
          have ec381 : ecn A367 (G366 31) = ec2_293 := (ecn_f (hF372.2 15 rfl) (hF372.1 31 rfl)).trans e303
          have bat2_368 : (0 : Int) ≤ at2_368 ∧ at2_368 ≤ 3002 := e373 ▸ hW371.1 10
          have ztk2_369 := tz_b tk2_369
          have btk2_369 : (0 : Int) ≤ tk2_369 ∧ tk2_369 ≤ 5 := e374 ▸ hW371.1 11
          have bfk2_370 : (0 : Int) ≤ fk2_370 ∧ fk2_370 ≤ 6 := e375 ▸ hW371.1 16
          refine .inl ⟨rfl, ?_⟩
          rcases q378 with ⟨a382, a383, a384, a385⟩ | ⟨a386, a387, a388, a389⟩
          · have _q : True := trivial
            refine jx_ld (pc_q := 25) (l_q := L330) (st_q := [.ref 66]) rfl (jl_aloadn gL330_0) ?_
            refine jx_ar (pc_q := 26) (st_q := [.ref 66, .ref 66]) rfl rfl rfl rfl ?_
            refine jr_get (pc_q := 29) (i := 15) (v := .int (i32 (op2_290))) rfl rfl (by decide) (rFv_eq (by decide) (show G366 15 = op2_290 from ((hF372.1 15 rfl).trans (e300)))) rfl ?_
            refine jx_ar (pc_q := 30) (st_q := [.int (i32 (1)), .int (i32 (op2_290)), .ref 66]) rfl rfl rfl rfl ?_
            refine jx_sub (pc_q := 31) rfl rfl ?_
            refine jr_put (pc_q := 34) (i := 15) (z := (op2_290 - 1)) rfl rfl (by decide) rfl rfl rfl rfl rfl rfl ?_
            have hW390 : Wk (uG G366 15 ((op2_290 - 1))) A367 := Wk_g hW371 (show (-2147483648 : Int) ≤ (op2_290 - 1) by omega) (show (op2_290 - 1) ≤ (2147483647 : Int) by omega)
            have hF391 := Fr_g (z := (op2_290 - 1)) (i := 15) hF379 (by decide)
            have ec392 : ecn A367 ((uG G366 15 ((op2_290 - 1))) 31) = ec2_293 := ec381
            refine jx_ld (pc_q := 35) (l_q := L330) (st_q := [.int (i32 (r287))]) rfl (jl_iloadn gL330_1) ?_
            refine jx_rt (v := some (.int (i32 (r287)))) rfl rfl rfl rfl rfl rfl ?_
            have z393 := tz_f (tk2_369)
            exact ⟨_, _, _, at2_368, fk2_370, (op2_290 - 1), nd2_291, tk2_369, ec2_293, rfl, rfl, hW390, hF391, hP380, by omega, (e373), (e375), rfl, ((hF372.1 31 rfl).trans (e301)), (e374), ec392, by omega, by omega, by omega, by omega, by omega, by omega, by first | exact Or.inl (⟨by omega, by omega, by omega⟩)⟩
          · have _q : True := trivial
            exfalso
            omega
      · have _q : True := trivial
        refine jx_ld (pc_q := 14) (l_q := jSto1 [(0, .ref 66)] 1 (.int (i32 (r287)))) (st_q := []) rfl rfl ?_
        obtain ⟨L394, eL394⟩ : ∃ q, q = jSto1 [(0, .ref 66)] 1 (.int (i32 (r287))) := ⟨_, rfl⟩
        rw [← eL394]
        have gL394_0 : jGet L394 0 = some (.ref 66) := eL394 ▸ jg_ne (by decide) (rfl : jGet [(0, .ref 66)] 0 = some (.ref 66)) rfl
        have gL394_1 : jGet L394 1 = some (.int (i32 (r287))) := eL394 ▸ jg_eq
        refine jx_ld (pc_q := 15) (l_q := L394) (st_q := [.ref 66]) rfl (jl_aloadn gL394_0) ?_
        refine jx_ld (pc_q := 16) (l_q := L394) (st_q := [.ref 66, .ref 66]) rfl (jl_aloadn gL394_0) ?_
        refine jx_ar (pc_q := 18) (st_q := [.int (i32 (93)), .ref 66, .ref 66]) rfl rfl rfl rfl ?_
        have b395 : (-2147483648 : Int) ≤ G285 13 ∧ G285 13 ≤ 2147483647 := hW294.1 13
        refine jx_vr (pc_q := 21) (as := [.int (i32 (93))]) (st := [.ref 66]) rfl rfl rfl rfl ⟨rfl, rfl, Nat.le_of_ble_eq_true rfl⟩ rfl rfl (c_is (dd := d) (hd := by omega) (hW := hW294) (k := 93) (tk := tk2_292) (e_tk := show G285 11 = tk2_292 from (e302)) (tn := G285 13) (e_tn := show G285 13 = G285 13 from rfl)  (h_k := ⟨(by decide), (by decide)⟩)  ) (fun o V_q hq => ?_)
        obtain ⟨r396, rfl, rfl, b397, q398⟩ := hq
        refine .inr ⟨_, rfl, ?_⟩
        rcases q398 with ⟨rfl, a399, a400, a401⟩ | rfl
        · have _q : True := trivial
          refine jx_vr (pc_q := 24) (as := [.int (i32 (1))]) (st := []) rfl rfl rfl rfl ⟨rfl, rfl, Nat.le_of_ble_eq_true rfl⟩ rfl rfl (c_need (dd := d) (hd := by omega) (hW := hW294) (g := 1) (ln := ln) (e_ln := show G285 9 = ln from ((hF295.1 9 rfl).trans ((hF157.1 9 rfl).trans ((hF6.1 9 rfl).trans (e_ln))))) (le := le) (e_le := show A286 4 (ln).toNat = le from (congrFun ((hF295.2 4 rfl).trans ((hF157.2 4 rfl).trans (hF6.2 4 rfl))) _).trans (e_le)) (at0 := at2_288) (e_at0 := show G285 10 = at2_288 from (e298)) (fk := fk2_289) (e_fk := show G285 16 = fk2_289 from (e299)) (tk0 := tk2_292) (e_tk0 := show G285 11 = tk2_292 from (e302))  (h_g := ⟨(by decide), (by decide)⟩)  (p_0 := by omega)) (fun o V_q hq => ?_)
          obtain ⟨G402, A403, at2_404, tk2_405, fk2_406, rfl, rfl, hW407, hF408, e409, e410, e411, p412, p413, q414⟩ := hq
          have hF415 := Fr_tr hF311 hF408 (Fr_sub (by decide)) (Fr_sub (by decide))
          have hP416 := Pf_f hP312 hF408 (by decide)
          have sf417 : wE A403 Vs sb (2 * k + 2) (r287) (nd) (nd2_291) := wE_ag (by omega) (Sg_fr hF408 (by decide)) (Ag_fr hF408 (by decide)) a325
          have sf418 : NdM A403 (nd) (nd2_291) (sy) := NdM_f hF408 (by decide) a327
          have ec419 : ecn A403 (G402 31) = ec2_293 := (ecn_f (hF408.2 15 rfl) (hF408.1 31 rfl)).trans e303
          have bat2_404 : (0 : Int) ≤ at2_404 ∧ at2_404 ≤ 3002 := e409 ▸ hW407.1 10
          have ztk2_405 := tz_b tk2_405
          have btk2_405 : (0 : Int) ≤ tk2_405 ∧ tk2_405 ≤ 5 := e410 ▸ hW407.1 11
          have bfk2_406 : (0 : Int) ≤ fk2_406 ∧ fk2_406 ≤ 6 := e411 ▸ hW407.1 16
          refine .inl ⟨rfl, ?_⟩
          rcases q414 with ⟨a420, a421, a422, a423⟩ | ⟨a424, a425, a426, a427⟩
          · have _q : True := trivial
            refine jx_ld (pc_q := 25) (l_q := L394) (st_q := [.ref 66]) rfl (jl_aloadn gL394_0) ?_
            refine jx_ar (pc_q := 26) (st_q := [.ref 66, .ref 66]) rfl rfl rfl rfl ?_
            refine jr_get (pc_q := 29) (i := 15) (v := .int (i32 (op2_290))) rfl rfl (by decide) (rFv_eq (by decide) (show G402 15 = op2_290 from ((hF408.1 15 rfl).trans (e300)))) rfl ?_
            refine jx_ar (pc_q := 30) (st_q := [.int (i32 (1)), .int (i32 (op2_290)), .ref 66]) rfl rfl rfl rfl ?_
            refine jx_sub (pc_q := 31) rfl rfl ?_
            refine jr_put (pc_q := 34) (i := 15) (z := (op2_290 - 1)) rfl rfl (by decide) rfl rfl rfl rfl rfl rfl ?_
            have hW428 : Wk (uG G402 15 ((op2_290 - 1))) A403 := Wk_g hW407 (show (-2147483648 : Int) ≤ (op2_290 - 1) by omega) (show (op2_290 - 1) ≤ (2147483647 : Int) by omega)
            have hF429 := Fr_g (z := (op2_290 - 1)) (i := 15) hF415 (by decide)
            have ec430 : ecn A403 ((uG G402 15 ((op2_290 - 1))) 31) = ec2_293 := ec419
            refine jx_ld (pc_q := 35) (l_q := L394) (st_q := [.int (i32 (r287))]) rfl (jl_iloadn gL394_1) ?_
            refine jx_rt (v := some (.int (i32 (r287)))) rfl rfl rfl rfl rfl rfl ?_
            have z431 := tz_f (tk2_405)
            exact ⟨_, _, _, at2_404, fk2_406, (op2_290 - 1), nd2_291, tk2_405, ec2_293, rfl, rfl, hW428, hF429, hP416, by omega, (e409), (e411), rfl, ((hF408.1 31 rfl).trans (e301)), (e410), ec430, by omega, by omega, by omega, by omega, by omega, by omega, by first | exact Or.inl (⟨by omega, by omega, by omega⟩)⟩
          · have _q : True := trivial
            have pz432 : at2_288 + tz tk2_405 ≤ at2_404 := by omega
            refine jx_ld (pc_q := 25) (l_q := L394) (st_q := [.ref 66]) rfl (jl_aloadn gL394_0) ?_
            refine jx_ar (pc_q := 26) (st_q := [.ref 66, .ref 66]) rfl rfl rfl rfl ?_
            refine jr_get (pc_q := 29) (i := 15) (v := .int (i32 (op2_290))) rfl rfl (by decide) (rFv_eq (by decide) (show G402 15 = op2_290 from ((hF408.1 15 rfl).trans (e300)))) rfl ?_
            refine jx_ar (pc_q := 30) (st_q := [.int (i32 (1)), .int (i32 (op2_290)), .ref 66]) rfl rfl rfl rfl ?_
            refine jx_sub (pc_q := 31) rfl rfl ?_
            refine jr_put (pc_q := 34) (i := 15) (z := (op2_290 - 1)) rfl rfl (by decide) rfl rfl rfl rfl rfl rfl ?_
            have hW433 : Wk (uG G402 15 ((op2_290 - 1))) A403 := Wk_g hW407 (show (-2147483648 : Int) ≤ (op2_290 - 1) by omega) (show (op2_290 - 1) ≤ (2147483647 : Int) by omega)
            have hF434 := Fr_g (z := (op2_290 - 1)) (i := 15) hF415 (by decide)
            have ec435 : ecn A403 ((uG G402 15 ((op2_290 - 1))) 31) = ec2_293 := ec419
            refine jx_ld (pc_q := 35) (l_q := L394) (st_q := [.int (i32 (r287))]) rfl (jl_iloadn gL394_1) ?_
            refine jx_rt (v := some (.int (i32 (r287)))) rfl rfl rfl rfl rfl rfl ?_
            have z436 := tz_f (tk2_405)
            exact ⟨_, _, _, at2_404, fk2_406, (op2_290 - 1), nd2_291, tk2_405, ec2_293, rfl, rfl, hW433, hF434, hP416, by omega, (e409), (e411), rfl, ((hF408.1 31 rfl).trans (e301)), (e410), ec435, by omega, by omega, by omega, by omega, by omega, by omega, by first | exact Or.inr ((⟨by omega, by omega, by omega, sf417, by omega, sf418, by omega⟩))⟩
        · have _q : True := trivial
          refine jx_vr (pc_q := 24) (as := [.int (i32 (0))]) (st := []) rfl rfl rfl rfl ⟨rfl, rfl, Nat.le_of_ble_eq_true rfl⟩ rfl rfl (c_need (dd := d) (hd := by omega) (hW := hW294) (g := 0) (ln := ln) (e_ln := show G285 9 = ln from ((hF295.1 9 rfl).trans ((hF157.1 9 rfl).trans ((hF6.1 9 rfl).trans (e_ln))))) (le := le) (e_le := show A286 4 (ln).toNat = le from (congrFun ((hF295.2 4 rfl).trans ((hF157.2 4 rfl).trans (hF6.2 4 rfl))) _).trans (e_le)) (at0 := at2_288) (e_at0 := show G285 10 = at2_288 from (e298)) (fk := fk2_289) (e_fk := show G285 16 = fk2_289 from (e299)) (tk0 := tk2_292) (e_tk0 := show G285 11 = tk2_292 from (e302))  (h_g := ⟨(by decide), (by decide)⟩)  (p_0 := by omega)) (fun o V_q hq => ?_)
          obtain ⟨G437, A438, at2_439, tk2_440, fk2_441, rfl, rfl, hW442, hF443, e444, e445, e446, p447, p448, q449⟩ := hq
          have hF450 := Fr_tr hF311 hF443 (Fr_sub (by decide)) (Fr_sub (by decide))
          have hP451 := Pf_f hP312 hF443 (by decide)
          have sf452 : wE A438 Vs sb (2 * k + 2) (r287) (nd) (nd2_291) := wE_ag (by omega) (Sg_fr hF443 (by decide)) (Ag_fr hF443 (by decide)) a325
          have sf453 : NdM A438 (nd) (nd2_291) (sy) := NdM_f hF443 (by decide) a327
          have ec454 : ecn A438 (G437 31) = ec2_293 := (ecn_f (hF443.2 15 rfl) (hF443.1 31 rfl)).trans e303
          have bat2_439 : (0 : Int) ≤ at2_439 ∧ at2_439 ≤ 3002 := e444 ▸ hW442.1 10
          have ztk2_440 := tz_b tk2_440
          have btk2_440 : (0 : Int) ≤ tk2_440 ∧ tk2_440 ≤ 5 := e445 ▸ hW442.1 11
          have bfk2_441 : (0 : Int) ≤ fk2_441 ∧ fk2_441 ≤ 6 := e446 ▸ hW442.1 16
          refine .inl ⟨rfl, ?_⟩
          rcases q449 with ⟨a455, a456, a457, a458⟩ | ⟨a459, a460, a461, a462⟩
          · have _q : True := trivial
            refine jx_ld (pc_q := 25) (l_q := L394) (st_q := [.ref 66]) rfl (jl_aloadn gL394_0) ?_
            refine jx_ar (pc_q := 26) (st_q := [.ref 66, .ref 66]) rfl rfl rfl rfl ?_
            refine jr_get (pc_q := 29) (i := 15) (v := .int (i32 (op2_290))) rfl rfl (by decide) (rFv_eq (by decide) (show G437 15 = op2_290 from ((hF443.1 15 rfl).trans (e300)))) rfl ?_
            refine jx_ar (pc_q := 30) (st_q := [.int (i32 (1)), .int (i32 (op2_290)), .ref 66]) rfl rfl rfl rfl ?_
            refine jx_sub (pc_q := 31) rfl rfl ?_
            refine jr_put (pc_q := 34) (i := 15) (z := (op2_290 - 1)) rfl rfl (by decide) rfl rfl rfl rfl rfl rfl ?_
            have hW463 : Wk (uG G437 15 ((op2_290 - 1))) A438 := Wk_g hW442 (show (-2147483648 : Int) ≤ (op2_290 - 1) by omega) (show (op2_290 - 1) ≤ (2147483647 : Int) by omega)
            have hF464 := Fr_g (z := (op2_290 - 1)) (i := 15) hF450 (by decide)
            have ec465 : ecn A438 ((uG G437 15 ((op2_290 - 1))) 31) = ec2_293 := ec454
            refine jx_ld (pc_q := 35) (l_q := L394) (st_q := [.int (i32 (r287))]) rfl (jl_iloadn gL394_1) ?_
            refine jx_rt (v := some (.int (i32 (r287)))) rfl rfl rfl rfl rfl rfl ?_
            have z466 := tz_f (tk2_440)
            exact ⟨_, _, _, at2_439, fk2_441, (op2_290 - 1), nd2_291, tk2_440, ec2_293, rfl, rfl, hW463, hF464, hP451, by omega, (e444), (e446), rfl, ((hF443.1 31 rfl).trans (e301)), (e445), ec465, by omega, by omega, by omega, by omega, by omega, by omega, by first | exact Or.inl (⟨by omega, by omega, by omega⟩)⟩
          · have _q : True := trivial
            exfalso
            omega
set_option maxRecDepth 20000 in
set_option maxHeartbeats 4000000 in
theorem c_readValue_w {X : jX} {k : Nat} (hE : REw X k) {dd : Nat} {Vs : Nat → Prop} {sb : Int} {c0 c1 : jC} {G : Nat → Int} {A : Nat → Nat → Int} {T : jH} {s place : Int} {ln le at0 fk op0 nd tk0 ec sy : Int} (hd : 6 * k + 13 ≤ dd) (hW : Wk G A) (e_ln : G 9 = ln) (e_le : A 4 (ln).toNat = le) (e_at0 : G 10 = at0) (e_fk : G 16 = fk) (e_op0 : G 15 = op0) (e_nd : G 31 = nd) (e_tk0 : G 11 = tk0) (e_ec : ecn A (G 31) = ec) (e_sy : G 19 = sy) (i_SV : SV Vs sb G A) (h_s : (-2147483648 : Int) ≤ s ∧ s ≤ 2147483647) (h_place : (-2147483648 : Int) ≤ place ∧ place ≤ 2147483647) (p_0 : 0 ≤ op0) (p_1 : op0 ≤ 9) (p_2 : op0 ≤ 8 ∨ 1 ≤ fk) (p_3 : 9 - op0 ≤ ((k + 1 : Nat) : Int) ∨ 1 ≤ fk) (p_4 : nd ≤ 2 * at0 - tz tk0 + 50) (p_5 : at0 ≤ le) (p_6 : op0 ≤ 8) (p_7 : fk = 0) (p_8 : 0 ≤ s ∧ s ≤ 201) (p_9 : -3000 ≤ place ∧ place ≤ 3002) (p_10 : SY Vs sb (s)) : wk X dd 289 [.ref 66, .int (i32 s), .int (i32 place)] (rV c0 c1 G A T) (fun o V_q => ∃ (G_q : Nat → Int) (A_q : Nat → Nat → Int) (r : Int) (at2 : Int) (fk2 : Int) (op2 : Int) (nd2 : Int) (tk2 : Int) (ec2 : Int), V_q = rV c0 c1 G_q A_q T ∧ o = .inl (some (.int (i32 r))) ∧ Wk G_q A_q ∧ Fr [10, 11, 12, 13, 14, 15, 16, 17, 18, 31] [15, 16, 17, 18, 19, 20, 21, 22, 24, 28] G A G_q A_q ∧ Pf nd A A_q ∧ ((-2147483648 : Int) ≤ r ∧ r ≤ 2147483647) ∧ G_q 10 = at2 ∧ G_q 16 = fk2 ∧ G_q 15 = op2 ∧ G_q 31 = nd2 ∧ G_q 11 = tk2 ∧ ecn A_q (G_q 31) = ec2 ∧ (at0 ≤ at2) ∧ (at2 ≤ le) ∧ (nd ≤ nd2) ∧ (op2 = op0) ∧ (0 ≤ r) ∧ (r ≤ nd2) ∧ (((fk = 0) ∧ (1 ≤ fk2) ∧ (nd2 - nd ≤ (2 * at2 - tz tk2) - (2 * at0 - tz tk0) + 2)) ∨ ((fk = 0) ∧ (fk2 = 0) ∧ (nd2 - nd ≤ (2 * at2 - tz tk2) - (2 * at0 - tz tk0) + 1) ∧ (wE A_q Vs sb (2 * k + 3) (r) (nd) (nd2)) ∧ (nd2 - nd + 5 * (ec2 - ec) ≤ (2 * at2 - tz tk2) - (2 * at0 - tz tk0) + 1 + tz tk0 - tz tk2) ∧ (NdM A_q (nd) (nd2) (sy)) ∧ (r + 1 = nd2)))) := by
  obtain ⟨d, rfl⟩ : ∃ d, dd = d + 1 := ⟨dd - 1, by omega⟩
  refine wk_of (e := jm289) rfl (Nat.le_of_ble_eq_true rfl) ?_
  show wj X d jm289 (0, [(0, .ref 66), (1, .int (i32 (s))), (2, .int (i32 (place)))], [], rV c0 c1 G A T) _
  have hF0 : Fr [10, 11, 12, 13, 14, 15, 16, 17, 18, 31] [15, 16, 17, 18, 19, 20, 21, 22, 24, 28] G A G A := Fr_rf
  have hP0 : Pf nd A A := Pf_rf
  have b_ln : (0 : Int) ≤ ln ∧ ln ≤ 3000 := e_ln ▸ hW.1 9
  have b_le : (0 : Int) ≤ le ∧ le ≤ 3000 := e_le ▸ hW.2 4 _
  have b_at0 : (0 : Int) ≤ at0 ∧ at0 ≤ 3002 := e_at0 ▸ hW.1 10
  have b_fk : (0 : Int) ≤ fk ∧ fk ≤ 6 := e_fk ▸ hW.1 16
  have b_op0 : (-2147483648 : Int) ≤ op0 ∧ op0 ≤ 2147483647 := e_op0 ▸ hW.1 15
  have b_nd : (0 : Int) ≤ nd ∧ nd ≤ 6999 := e_nd ▸ hW.1 31
  have z_tk0 := tz_f tk0
  have b_tk0 : (0 : Int) ≤ tk0 ∧ tk0 ≤ 5 := e_tk0 ▸ hW.1 11
  have b_sy : (0 : Int) ≤ sy ∧ sy ≤ 202 := e_sy ▸ hW.1 19
  refine jx_ld (pc_q := 1) (l_q := [(0, .ref 66), (1, .int (i32 (s))), (2, .int (i32 (place)))]) (st_q := [.ref 66]) rfl (jl_aloadn rfl) ?_
  refine jx_ar (pc_q := 3) (st_q := [.int (i32 (91)), .ref 66]) rfl rfl rfl rfl ?_
  have b1 : (-2147483648 : Int) ≤ G 13 ∧ G 13 ≤ 2147483647 := hW.1 13
  refine jx_vr (pc_q := 6) (as := [.int (i32 (91))]) (st := []) rfl rfl rfl rfl ⟨rfl, rfl, Nat.le_of_ble_eq_true rfl⟩ rfl rfl (c_is (dd := d) (hd := by omega) (hW := hW) (k := 91) (tk := tk0) (e_tk := show G 11 = tk0 from (e_tk0)) (tn := G 13) (e_tn := show G 13 = G 13 from rfl)  (h_k := ⟨(by decide), (by decide)⟩)  ) (fun o V_q hq => ?_)
  obtain ⟨r2, rfl, rfl, b3, q4⟩ := hq
  refine .inr ⟨_, rfl, ?_⟩
  rcases q4 with ⟨rfl, a5, a6, a7⟩ | rfl
  · have _q : True := trivial
    refine jx_if_eq (pc_q := 9) (tg := 44) rfl rfl rfl (by decide) (by decide) (fun h8 => ?_) (fun h8 => ?_)
    · have _q := h8
      exact absurd h8 (by omega)
    · have _q := h8
      refine jx_ld (pc_q := 10) (l_q := [(0, .ref 66), (1, .int (i32 (s))), (2, .int (i32 (place)))]) (st_q := [.ref 66]) rfl (jl_aloadn rfl) ?_
      refine jr_get (pc_q := 13) (i := 21) (v := .ref 74) rfl rfl (by decide) rfl rfl ?_
      refine jx_ld (pc_q := 14) (l_q := [(0, .ref 66), (1, .int (i32 (s))), (2, .int (i32 (place)))]) (st_q := [.int (i32 (s)), .ref 74]) rfl (jl_iloadn rfl) ?_
      have b9 : (0 : Int) ≤ A 7 (s).toNat ∧ A 7 (s).toNat ≤ 14 := hW.2 7 _
      refine jr_ldv (pc_q := 15) (i := 7) (m := 260) (z := s) (y := A 7 (s).toNat) rfl (by decide) rfl (by decide) (by omega) (by omega) rfl (show A 7 (s).toNat = A 7 (s).toNat from rfl) ?_
      refine jx_st (pc_q := 18) (as := [.int (i32 (A 7 (s).toNat))]) (st := []) rfl rfl ⟨rfl, Nat.le_of_ble_eq_true rfl⟩ rfl rfl rfl (c_isArray (dd := d) (hd := by omega) (k := A 7 (s).toNat)   (h_k := ⟨(Int.le_trans (by decide : (-2147483648 : Int) ≤ 0) b9.1), (Int.le_trans b9.2 (by decide : (14 : Int) ≤ 2147483647))⟩)  ) (fun o V_q hq => ?_)
      obtain ⟨r10, rfl, rfl, b11, q12⟩ := hq
      refine .inr ⟨_, rfl, ?_⟩
      rcases q12 with ⟨rfl, a13⟩ | rfl
      · have _q : True := trivial
        refine jx_if_ne (pc_q := 21) (tg := 29) rfl rfl rfl (by decide) (by decide) (fun h14 => ?_) (fun h14 => ?_)
        · have _q := h14
          refine jx_ld (pc_q := 30) (l_q := [(0, .ref 66), (1, .int (i32 (s))), (2, .int (i32 (place)))]) (st_q := [.ref 66]) rfl (jl_aloadn rfl) ?_
          refine jx_vr (pc_q := 33) (as := []) (st := []) rfl rfl rfl rfl ⟨rfl, rfl, Nat.le_of_ble_eq_true rfl⟩ rfl rfl (c_readIndex_w (dd := d) (hE := hE) (hd := by omega) (hW := hW)  (ln := ln) (e_ln := show G 9 = ln from (e_ln)) (le := le) (e_le := show A 4 (ln).toNat = le from (e_le)) (at0 := at0) (e_at0 := show G 10 = at0 from (e_at0)) (fk := fk) (e_fk := show G 16 = fk from (e_fk)) (op0 := op0) (e_op0 := show G 15 = op0 from (e_op0)) (nd := nd) (e_nd := show G 31 = nd from (e_nd)) (tk0 := tk0) (e_tk0 := show G 11 = tk0 from (e_tk0)) (ec := ec) (e_ec := show ecn A (G 31) = ec from e_ec) (sy := sy) (e_sy := show G 19 = sy from (e_sy)) (i_SV := (SV_ext (rfl) (rfl) i_SV))   (p_0 := by omega) (p_1 := by omega) (p_2 := by omega) (p_3 := by omega) (p_4 := by omega) (p_5 := by omega) (p_6 := by omega) (p_7 := by omega) (p_8 := by omega)) (fun o V_q hq => ?_)
          obtain ⟨G15, A16, r17, at2_18, fk2_19, op2_20, nd2_21, tk2_22, ec2_23, rfl, rfl, hW24, hF25, hQ26, b27, e28, e29, e30, e31, e32, e33, p34, p35, p36, p37, p38, p39, q40⟩ := hq
          have hF41 := Fr_tr hF0 hF25 (Fr_sub (by decide)) (Fr_sub (by decide))
          have hP42 := Pf_tr hP0 hQ26 (by omega)
          have bat2_18 : (0 : Int) ≤ at2_18 ∧ at2_18 ≤ 3002 := e28 ▸ hW24.1 10
          have bfk2_19 : (0 : Int) ≤ fk2_19 ∧ fk2_19 ≤ 6 := e29 ▸ hW24.1 16
          have bop2_20 : (-2147483648 : Int) ≤ op2_20 ∧ op2_20 ≤ 2147483647 := e30 ▸ hW24.1 15
          have bnd2_21 : (0 : Int) ≤ nd2_21 ∧ nd2_21 ≤ 6999 := e31 ▸ hW24.1 31
          have ztk2_22 := tz_b tk2_22
          have btk2_22 : (0 : Int) ≤ tk2_22 ∧ tk2_22 ≤ 5 := e32 ▸ hW24.1 11
          refine .inr ⟨_, rfl, ?_⟩
          rcases q40 with ⟨a43, a44, a45⟩ | ⟨a46, a47, a48, a49, a50, a51, a52⟩
          · have _q : True := trivial
            refine jx_ld (pc_q := 34) (l_q := jSto1 [(0, .ref 66), (1, .int (i32 (s))), (2, .int (i32 (place)))] 3 (.int (i32 (r17)))) (st_q := []) rfl rfl ?_
            obtain ⟨L53, eL53⟩ : ∃ q, q = jSto1 [(0, .ref 66), (1, .int (i32 (s))), (2, .int (i32 (place)))] 3 (.int (i32 (r17))) := ⟨_, rfl⟩
            rw [← eL53]
            have gL53_0 : jGet L53 0 = some (.ref 66) := eL53 ▸ jg_ne (by decide) (rfl : jGet [(0, .ref 66), (1, .int (i32 (s))), (2, .int (i32 (place)))] 0 = some (.ref 66)) rfl
            have gL53_1 : jGet L53 1 = some (.int (i32 (s))) := eL53 ▸ jg_ne (by decide) (rfl : jGet [(0, .ref 66), (1, .int (i32 (s))), (2, .int (i32 (place)))] 1 = some (.int (i32 (s)))) rfl
            have gL53_2 : jGet L53 2 = some (.int (i32 (place))) := eL53 ▸ jg_ne (by decide) (rfl : jGet [(0, .ref 66), (1, .int (i32 (s))), (2, .int (i32 (place)))] 2 = some (.int (i32 (place)))) rfl
            have gL53_3 : jGet L53 3 = some (.int (i32 (r17))) := eL53 ▸ jg_eq
            refine jx_ld (pc_q := 35) (l_q := L53) (st_q := [.ref 66]) rfl (jl_aloadn gL53_0) ?_
            refine jx_ar (pc_q := 36) (st_q := [.int (i32 (3)), .ref 66]) rfl rfl rfl rfl ?_
            refine jx_ld (pc_q := 37) (l_q := L53) (st_q := [.int (i32 (s)), .int (i32 (3)), .ref 66]) rfl (jl_iloadn gL53_1) ?_
            refine jx_ld (pc_q := 38) (l_q := L53) (st_q := [.int (i32 (r17)), .int (i32 (s)), .int (i32 (3)), .ref 66]) rfl (jl_iloadn gL53_3) ?_
            refine jx_ar (pc_q := 39) (st_q := [.int (i32 (0)), .int (i32 (r17)), .int (i32 (s)), .int (i32 (3)), .ref 66]) rfl rfl rfl rfl ?_
            refine jx_ar (pc_q := 40) (st_q := [.int (i32 (0)), .int (i32 (0)), .int (i32 (r17)), .int (i32 (s)), .int (i32 (3)), .ref 66]) rfl rfl rfl rfl ?_
            refine jx_vr (pc_q := 43) (as := [.int (i32 (3)), .int (i32 (s)), .int (i32 (r17)), .int (i32 (0)), .int (i32 (0))]) (st := []) rfl rfl rfl rfl ⟨rfl, rfl, Nat.le_of_ble_eq_true rfl⟩ rfl rfl (c_node_e (dd := d) (hd := by omega) (hW := hW24) (kind := 3) (a := s) (b := r17) (c := 0) (e := 0) (nd := nd2_21) (e_nd := show G15 31 = nd2_21 from (e31)) (ec := ec2_23) (e_ec := show ecn A16 (G15 31) = ec2_23 from e33) (sy := sy) (e_sy := show G15 19 = sy from ((hF25.1 19 rfl).trans (e_sy))) (fk := fk2_19) (e_fk := show G15 16 = fk2_19 from (e29))  (h_kind := ⟨(by decide), (by decide)⟩) (h_a := ⟨(Int.le_trans (by decide : (-2147483648 : Int) ≤ -2147483648) h_s.1), (Int.le_trans h_s.2 (by decide : (2147483647 : Int) ≤ 2147483647))⟩) (h_b := ⟨(Int.le_trans (by decide : (-2147483648 : Int) ≤ -2147483648) b27.1), (Int.le_trans b27.2 (by decide : (2147483647 : Int) ≤ 2147483647))⟩) (h_c := ⟨(by decide), (by decide)⟩) (h_e := ⟨(by decide), (by decide)⟩)  (p_0 := by omega) (p_1 := by omega) (p_2 := by omega) (p_3 := by omega)) (fun o V_q hq => ?_)
            obtain ⟨G54, A55, nd2_56, ec2_57, rfl, rfl, hW58, hF59, hQ60, e61, e62, p63, p64, p65, p66, -⟩ := hq
            have hF68 := Fr_tr hF41 hF59 (Fr_sub (by decide)) (Fr_sub (by decide))
            have hP69 := Pf_tr hP42 hQ60 (by omega)
            have bnd2_56 : (0 : Int) ≤ nd2_56 ∧ nd2_56 ≤ 6999 := e61 ▸ hW58.1 31
            refine .inr ⟨_, rfl, ?_⟩
            refine jx_rt (v := some (.int (i32 (nd2_21)))) rfl rfl rfl rfl rfl rfl ?_
            have z70 := tz_f (tk2_22)
            exact ⟨_, _, _, at2_18, fk2_19, op2_20, nd2_56, tk2_22, ec2_57, rfl, rfl, hW58, hF68, hP69, by omega, ((hF59.1 10 rfl).trans (e28)), ((hF59.1 16 rfl).trans (e29)), ((hF59.1 15 rfl).trans (e30)), (e61), ((hF59.1 11 rfl).trans (e32)), e62, by omega, by omega, by omega, by omega, by omega, by omega, by first | exact Or.inl (⟨by omega, by omega, by omega⟩)⟩
          · have _q : True := trivial
            refine jx_ld (pc_q := 34) (l_q := jSto1 [(0, .ref 66), (1, .int (i32 (s))), (2, .int (i32 (place)))] 3 (.int (i32 (r17)))) (st_q := []) rfl rfl ?_
            obtain ⟨L71, eL71⟩ : ∃ q, q = jSto1 [(0, .ref 66), (1, .int (i32 (s))), (2, .int (i32 (place)))] 3 (.int (i32 (r17))) := ⟨_, rfl⟩
            rw [← eL71]
            have gL71_0 : jGet L71 0 = some (.ref 66) := eL71 ▸ jg_ne (by decide) (rfl : jGet [(0, .ref 66), (1, .int (i32 (s))), (2, .int (i32 (place)))] 0 = some (.ref 66)) rfl
            have gL71_1 : jGet L71 1 = some (.int (i32 (s))) := eL71 ▸ jg_ne (by decide) (rfl : jGet [(0, .ref 66), (1, .int (i32 (s))), (2, .int (i32 (place)))] 1 = some (.int (i32 (s)))) rfl
            have gL71_2 : jGet L71 2 = some (.int (i32 (place))) := eL71 ▸ jg_ne (by decide) (rfl : jGet [(0, .ref 66), (1, .int (i32 (s))), (2, .int (i32 (place)))] 2 = some (.int (i32 (place)))) rfl
            have gL71_3 : jGet L71 3 = some (.int (i32 (r17))) := eL71 ▸ jg_eq
            refine jx_ld (pc_q := 35) (l_q := L71) (st_q := [.ref 66]) rfl (jl_aloadn gL71_0) ?_
            refine jx_ar (pc_q := 36) (st_q := [.int (i32 (3)), .ref 66]) rfl rfl rfl rfl ?_
            refine jx_ld (pc_q := 37) (l_q := L71) (st_q := [.int (i32 (s)), .int (i32 (3)), .ref 66]) rfl (jl_iloadn gL71_1) ?_
            refine jx_ld (pc_q := 38) (l_q := L71) (st_q := [.int (i32 (r17)), .int (i32 (s)), .int (i32 (3)), .ref 66]) rfl (jl_iloadn gL71_3) ?_
            refine jx_ar (pc_q := 39) (st_q := [.int (i32 (0)), .int (i32 (r17)), .int (i32 (s)), .int (i32 (3)), .ref 66]) rfl rfl rfl rfl ?_
            refine jx_ar (pc_q := 40) (st_q := [.int (i32 (0)), .int (i32 (0)), .int (i32 (r17)), .int (i32 (s)), .int (i32 (3)), .ref 66]) rfl rfl rfl rfl ?_
            refine jx_vr (pc_q := 43) (as := [.int (i32 (3)), .int (i32 (s)), .int (i32 (r17)), .int (i32 (0)), .int (i32 (0))]) (st := []) rfl rfl rfl rfl ⟨rfl, rfl, Nat.le_of_ble_eq_true rfl⟩ rfl rfl (c_node_e (dd := d) (hd := by omega) (hW := hW24) (kind := 3) (a := s) (b := r17) (c := 0) (e := 0) (nd := nd2_21) (e_nd := show G15 31 = nd2_21 from (e31)) (ec := ec2_23) (e_ec := show ecn A16 (G15 31) = ec2_23 from e33) (sy := sy) (e_sy := show G15 19 = sy from ((hF25.1 19 rfl).trans (e_sy))) (fk := fk2_19) (e_fk := show G15 16 = fk2_19 from (e29))  (h_kind := ⟨(by decide), (by decide)⟩) (h_a := ⟨(Int.le_trans (by decide : (-2147483648 : Int) ≤ -2147483648) h_s.1), (Int.le_trans h_s.2 (by decide : (2147483647 : Int) ≤ 2147483647))⟩) (h_b := ⟨(Int.le_trans (by decide : (-2147483648 : Int) ≤ -2147483648) b27.1), (Int.le_trans b27.2 (by decide : (2147483647 : Int) ≤ 2147483647))⟩) (h_c := ⟨(by decide), (by decide)⟩) (h_e := ⟨(by decide), (by decide)⟩)  (p_0 := by omega) (p_1 := by omega) (p_2 := by omega) (p_3 := by omega)) (fun o V_q hq => ?_)
            obtain ⟨G72, A73, nd2_74, ec2_75, rfl, rfl, hW76, hF77, hQ78, e79, e80, p81, p82, p83, p84, -⟩ := hq
            have hF86 := Fr_tr hF41 hF77 (Fr_sub (by decide)) (Fr_sub (by decide))
            have hP87 := Pf_tr hP42 hQ78 (by omega)
            have sf88 : wE A73 Vs sb (2 * k + 2) (r17) (nd) (nd2_21) := wE_ag (by omega) (Sg_fr hF77 (by decide)) (Ag_pf hQ78 (by omega)) a49
            have sf89 : NdM A73 (nd) (nd2_21) (sy) := NdM_pf hQ78 (by omega) (by omega) a51
            have bnd2_74 : (0 : Int) ≤ nd2_74 ∧ nd2_74 ≤ 6999 := e79 ▸ hW76.1 31
            refine .inr ⟨_, rfl, ?_⟩
            refine jx_rt (v := some (.int (i32 (nd2_21)))) rfl rfl rfl rfl rfl rfl ?_
            have z90 := tz_f (tk2_22)
            exact ⟨_, _, _, at2_18, fk2_19, op2_20, nd2_74, tk2_22, ec2_75, rfl, rfl, hW76, hF86, hP87, by omega, ((hF77.1 10 rfl).trans (e28)), ((hF77.1 16 rfl).trans (e29)), ((hF77.1 15 rfl).trans (e30)), (e79), ((hF77.1 11 rfl).trans (e32)), e80, by omega, by omega, by omega, by omega, by omega, by omega, by first | exact Or.inr ((⟨by omega, by omega, by omega, (wE_elem p83 (by omega) (by omega) p_10 (kq (P := kArr) (show A73 7 (s).toNat = A 7 (s).toNat from (congrFun ((hF77.2 7 rfl).trans (hF25.2 7 rfl)) _)) a13) (wE_mono (by omega) (by omega) (by omega) sf88)), by omega, (NdM_w (NdM_app (sy := sy) sf89 (p84 (by omega)) (by omega) (by omega) (by omega)) (by omega) (by omega) (by omega)), by omega⟩))⟩
        · have _q := h14
          exact absurd h14 (by omega)
      · have _q : True := trivial
        refine jx_if_ne (pc_q := 21) (tg := 29) rfl rfl rfl (by decide) (by decide) (fun h91 => ?_) (fun h91 => ?_)
        · have _q := h91
          exact absurd h91 (by omega)
        · have _q := h91
          refine jx_ld (pc_q := 22) (l_q := [(0, .ref 66), (1, .int (i32 (s))), (2, .int (i32 (place)))]) (st_q := [.ref 66]) rfl (jl_aloadn rfl) ?_
          refine jx_ar (pc_q := 23) (st_q := [.int (i32 (4)), .ref 66]) rfl rfl rfl rfl ?_
          refine jx_ld (pc_q := 24) (l_q := [(0, .ref 66), (1, .int (i32 (s))), (2, .int (i32 (place)))]) (st_q := [.int (i32 (place)), .int (i32 (4)), .ref 66]) rfl (jl_iloadn rfl) ?_
          refine jx_vr (pc_q := 27) (as := [.int (i32 (4)), .int (i32 (place))]) (st := []) rfl rfl rfl rfl ⟨rfl, rfl, Nat.le_of_ble_eq_true rfl⟩ rfl rfl (c_fail (dd := d) (hd := by omega) (hW := hW) (kind := 4) (place := place) (fk := fk) (e_fk := show G 16 = fk from (e_fk))  (h_kind := ⟨(by decide), (by decide)⟩) (h_place := ⟨(Int.le_trans (by decide : (-2147483648 : Int) ≤ -2147483648) h_place.1), (Int.le_trans h_place.2 (by decide : (2147483647 : Int) ≤ 2147483647))⟩)  (p_0 := by omega) (p_1 := by omega)) (fun o V_q hq => ?_)
          obtain ⟨G92, A93, fk2_94, rfl, rfl, hW95, hF96, e97, p98, -⟩ := hq
          have hF100 := Fr_tr hF0 hF96 (Fr_sub (by decide)) (Fr_sub (by decide))
          have hP101 := Pf_f hP0 hF96 (by decide)
          have ec102 : ecn A93 (G92 31) = ec := (ecn_f (hF96.2 15 rfl) (hF96.1 31 rfl)).trans e_ec
          have bfk2_94 : (0 : Int) ≤ fk2_94 ∧ fk2_94 ≤ 6 := e97 ▸ hW95.1 16
          refine .inl ⟨rfl, ?_⟩
          refine jx_ar (pc_q := 28) (st_q := [.int (i32 (0))]) rfl rfl rfl rfl ?_
          refine jx_rt (v := some (.int (i32 (0)))) rfl rfl rfl rfl rfl rfl ?_
          have z103 := tz_f (tk0)
          exact ⟨_, _, _, at0, fk2_94, op0, nd, tk0, ec, rfl, rfl, hW95, hF100, hP101, by omega, ((hF96.1 10 rfl).trans (e_at0)), (e97), ((hF96.1 15 rfl).trans (e_op0)), ((hF96.1 31 rfl).trans (e_nd)), ((hF96.1 11 rfl).trans (e_tk0)), ec102, by omega, by omega, by omega, by omega, by omega, by omega, by first | exact Or.inl (⟨by omega, by omega, by omega⟩)⟩
  · have _q : True := trivial
    refine jx_if_eq (pc_q := 9) (tg := 44) rfl rfl rfl (by decide) (by decide) (fun h104 => ?_) (fun h104 => ?_)
    · have _q := h104
      refine jx_ld (pc_q := 45) (l_q := [(0, .ref 66), (1, .int (i32 (s))), (2, .int (i32 (place)))]) (st_q := [.ref 66]) rfl (jl_aloadn rfl) ?_
      refine jr_get (pc_q := 48) (i := 21) (v := .ref 74) rfl rfl (by decide) rfl rfl ?_
      refine jx_ld (pc_q := 49) (l_q := [(0, .ref 66), (1, .int (i32 (s))), (2, .int (i32 (place)))]) (st_q := [.int (i32 (s)), .ref 74]) rfl (jl_iloadn rfl) ?_
      have b105 : (0 : Int) ≤ A 7 (s).toNat ∧ A 7 (s).toNat ≤ 14 := hW.2 7 _
      refine jr_ldv (pc_q := 50) (i := 7) (m := 260) (z := s) (y := A 7 (s).toNat) rfl (by decide) rfl (by decide) (by omega) (by omega) rfl (show A 7 (s).toNat = A 7 (s).toNat from rfl) ?_
      refine jx_st (pc_q := 53) (as := [.int (i32 (A 7 (s).toNat))]) (st := []) rfl rfl ⟨rfl, Nat.le_of_ble_eq_true rfl⟩ rfl rfl rfl (c_isValue (dd := d) (hd := by omega) (k := A 7 (s).toNat)   (h_k := ⟨(Int.le_trans (by decide : (-2147483648 : Int) ≤ 0) b105.1), (Int.le_trans b105.2 (by decide : (14 : Int) ≤ 2147483647))⟩)  ) (fun o V_q hq => ?_)
      obtain ⟨r106, rfl, rfl, b107, q108⟩ := hq
      refine .inr ⟨_, rfl, ?_⟩
      rcases q108 with ⟨rfl, a109⟩ | rfl
      · have _q : True := trivial
        refine jx_if_ne (pc_q := 56) (tg := 64) rfl rfl rfl (by decide) (by decide) (fun h110 => ?_) (fun h110 => ?_)
        · have _q := h110
          refine jx_ld (pc_q := 65) (l_q := [(0, .ref 66), (1, .int (i32 (s))), (2, .int (i32 (place)))]) (st_q := [.ref 66]) rfl (jl_aloadn rfl) ?_
          refine jx_ar (pc_q := 66) (st_q := [.int (i32 (2)), .ref 66]) rfl rfl rfl rfl ?_
          refine jx_ld (pc_q := 67) (l_q := [(0, .ref 66), (1, .int (i32 (s))), (2, .int (i32 (place)))]) (st_q := [.int (i32 (s)), .int (i32 (2)), .ref 66]) rfl (jl_iloadn rfl) ?_
          refine jx_ar (pc_q := 68) (st_q := [.int (i32 (0)), .int (i32 (s)), .int (i32 (2)), .ref 66]) rfl rfl rfl rfl ?_
          refine jx_ar (pc_q := 69) (st_q := [.int (i32 (0)), .int (i32 (0)), .int (i32 (s)), .int (i32 (2)), .ref 66]) rfl rfl rfl rfl ?_
          refine jx_ar (pc_q := 70) (st_q := [.int (i32 (0)), .int (i32 (0)), .int (i32 (0)), .int (i32 (s)), .int (i32 (2)), .ref 66]) rfl rfl rfl rfl ?_
          refine jx_vr (pc_q := 73) (as := [.int (i32 (2)), .int (i32 (s)), .int (i32 (0)), .int (i32 (0)), .int (i32 (0))]) (st := []) rfl rfl rfl rfl ⟨rfl, rfl, Nat.le_of_ble_eq_true rfl⟩ rfl rfl (c_node_o (dd := d) (hd := by omega) (hW := hW) (kind := 2) (a := s) (b := 0) (c := 0) (e := 0) (nd := nd) (e_nd := show G 31 = nd from (e_nd)) (ec := ec) (e_ec := show ecn A (G 31) = ec from e_ec) (sy := sy) (e_sy := show G 19 = sy from (e_sy))  (h_kind := ⟨(by decide), (by decide)⟩) (h_a := ⟨(Int.le_trans (by decide : (-2147483648 : Int) ≤ -2147483648) h_s.1), (Int.le_trans h_s.2 (by decide : (2147483647 : Int) ≤ 2147483647))⟩) (h_b := ⟨(by decide), (by decide)⟩) (h_c := ⟨(by decide), (by decide)⟩) (h_e := ⟨(by decide), (by decide)⟩)  (p_0 := by omega) (p_1 := by omega) (p_2 := by omega)) (fun o V_q hq => ?_)
          obtain ⟨G111, A112, nd2_113, ec2_114, rfl, rfl, hW115, hF116, hQ117, e118, e119, p120, p121, p122, p123, -⟩ := hq
          have hF125 := Fr_tr hF0 hF116 (Fr_sub (by decide)) (Fr_sub (by decide))
          have hP126 := Pf_tr hP0 hQ117 (by omega)
          have bnd2_113 : (0 : Int) ≤ nd2_113 ∧ nd2_113 ≤ 6999 := e118 ▸ hW115.1 31
          refine .inr ⟨_, rfl, ?_⟩
          refine jx_rt (v := some (.int (i32 (nd)))) rfl rfl rfl rfl rfl rfl ?_
          have z127 := tz_f (tk0)
          exact ⟨_, _, _, at0, fk, op0, nd2_113, tk0, ec2_114, rfl, rfl, hW115, hF125, hP126, by omega, ((hF116.1 10 rfl).trans (e_at0)), ((hF116.1 16 rfl).trans (e_fk)), ((hF116.1 15 rfl).trans (e_op0)), (e118), ((hF116.1 11 rfl).trans (e_tk0)), e119, by omega, by omega, by omega, by omega, by omega, by omega, by first | exact Or.inr ((⟨by omega, by omega, by omega, (wE_var p122 (by omega) (by omega) p_10 (kq (P := kVal) (show A112 7 (s).toNat = A 7 (s).toNat from (congrFun (hF116.2 7 rfl) _)) a109)), by omega, (NdM_w p123 (by omega) (by omega) (by omega)), by omega⟩))⟩
        · have _q := h110
          exact absurd h110 (by omega)
      · have _q : True := trivial
        refine jx_if_ne (pc_q := 56) (tg := 64) rfl rfl rfl (by decide) (by decide) (fun h128 => ?_) (fun h128 => ?_)
        · have _q := h128
          exact absurd h128 (by omega)
        · have _q := h128
          refine jx_ld (pc_q := 57) (l_q := [(0, .ref 66), (1, .int (i32 (s))), (2, .int (i32 (place)))]) (st_q := [.ref 66]) rfl (jl_aloadn rfl) ?_
          refine jx_ar (pc_q := 58) (st_q := [.int (i32 (4)), .ref 66]) rfl rfl rfl rfl ?_
          refine jx_ld (pc_q := 59) (l_q := [(0, .ref 66), (1, .int (i32 (s))), (2, .int (i32 (place)))]) (st_q := [.int (i32 (place)), .int (i32 (4)), .ref 66]) rfl (jl_iloadn rfl) ?_
          refine jx_vr (pc_q := 62) (as := [.int (i32 (4)), .int (i32 (place))]) (st := []) rfl rfl rfl rfl ⟨rfl, rfl, Nat.le_of_ble_eq_true rfl⟩ rfl rfl (c_fail (dd := d) (hd := by omega) (hW := hW) (kind := 4) (place := place) (fk := fk) (e_fk := show G 16 = fk from (e_fk))  (h_kind := ⟨(by decide), (by decide)⟩) (h_place := ⟨(Int.le_trans (by decide : (-2147483648 : Int) ≤ -2147483648) h_place.1), (Int.le_trans h_place.2 (by decide : (2147483647 : Int) ≤ 2147483647))⟩)  (p_0 := by omega) (p_1 := by omega)) (fun o V_q hq => ?_)
          obtain ⟨G129, A130, fk2_131, rfl, rfl, hW132, hF133, e134, p135, -⟩ := hq
          have hF137 := Fr_tr hF0 hF133 (Fr_sub (by decide)) (Fr_sub (by decide))
          have hP138 := Pf_f hP0 hF133 (by decide)
          have ec139 : ecn A130 (G129 31) = ec := (ecn_f (hF133.2 15 rfl) (hF133.1 31 rfl)).trans e_ec
          have bfk2_131 : (0 : Int) ≤ fk2_131 ∧ fk2_131 ≤ 6 := e134 ▸ hW132.1 16
          refine .inl ⟨rfl, ?_⟩
          refine jx_ar (pc_q := 63) (st_q := [.int (i32 (0))]) rfl rfl rfl rfl ?_
          refine jx_rt (v := some (.int (i32 (0)))) rfl rfl rfl rfl rfl rfl ?_
          have z140 := tz_f (tk0)
          exact ⟨_, _, _, at0, fk2_131, op0, nd, tk0, ec, rfl, rfl, hW132, hF137, hP138, by omega, ((hF133.1 10 rfl).trans (e_at0)), (e134), ((hF133.1 15 rfl).trans (e_op0)), ((hF133.1 31 rfl).trans (e_nd)), ((hF133.1 11 rfl).trans (e_tk0)), ec139, by omega, by omega, by omega, by omega, by omega, by omega, by first | exact Or.inl (⟨by omega, by omega, by omega⟩)⟩
    · have _q := h104
      exact absurd h104 (by omega)
set_option maxRecDepth 20000 in
set_option maxHeartbeats 4000000 in
theorem c_readOperand_w {X : jX} {k : Nat} (hE : REw X k) {dd : Nat} {Vs : Nat → Prop} {sb : Int} {c0 c1 : jC} {G : Nat → Int} {A : Nat → Nat → Int} {T : jH} {ln le at0 fk op0 nd tk0 ec sy : Int} (hd : 6 * k + 14 ≤ dd) (hW : Wk G A) (e_ln : G 9 = ln) (e_le : A 4 (ln).toNat = le) (e_at0 : G 10 = at0) (e_fk : G 16 = fk) (e_op0 : G 15 = op0) (e_nd : G 31 = nd) (e_tk0 : G 11 = tk0) (e_ec : ecn A (G 31) = ec) (e_sy : G 19 = sy) (i_SV : SV Vs sb G A) (p_0 : 0 ≤ op0) (p_1 : op0 ≤ 9) (p_2 : op0 ≤ 8 ∨ 1 ≤ fk) (p_3 : 9 - op0 ≤ ((k + 1 : Nat) : Int) ∨ 1 ≤ fk) (p_4 : nd ≤ 2 * at0 - tz tk0 + 50) (p_5 : at0 ≤ le) : wk X dd 288 [.ref 66] (rV c0 c1 G A T) (fun o V_q => ∃ (G_q : Nat → Int) (A_q : Nat → Nat → Int) (r : Int) (at2 : Int) (fk2 : Int) (op2 : Int) (nd2 : Int) (tk2 : Int) (ec2 : Int), V_q = rV c0 c1 G_q A_q T ∧ o = .inl (some (.int (i32 r))) ∧ Wk G_q A_q ∧ Fr [10, 11, 12, 13, 14, 15, 16, 17, 18, 31] [15, 16, 17, 18, 19, 20, 21, 22, 24, 28] G A G_q A_q ∧ Pf nd A A_q ∧ ((-2147483648 : Int) ≤ r ∧ r ≤ 2147483647) ∧ G_q 10 = at2 ∧ G_q 16 = fk2 ∧ G_q 15 = op2 ∧ G_q 31 = nd2 ∧ G_q 11 = tk2 ∧ ecn A_q (G_q 31) = ec2 ∧ (at0 ≤ at2) ∧ (at2 ≤ le) ∧ (nd ≤ nd2) ∧ (op2 = op0) ∧ (0 ≤ r) ∧ (r ≤ nd2) ∧ (((1 ≤ fk) ∧ (1 ≤ fk2) ∧ (nd2 = nd) ∧ (at2 = at0) ∧ (tk2 = tk0) ∧ (tz tk2 = tz tk0)) ∨ ((fk = 0) ∧ (1 ≤ fk2) ∧ (nd2 - nd ≤ (2 * at2 - tz tk2) - (2 * at0 - tz tk0) + 1)) ∨ ((fk = 0) ∧ (fk2 = 0) ∧ (nd2 - nd ≤ (2 * at2 - tz tk2) - (2 * at0 - tz tk0)) ∧ (wE A_q Vs sb (2 * k + 3) (r) (nd) (nd2)) ∧ (nd2 - nd + 5 * (ec2 - ec) ≤ (2 * at2 - tz tk2) - (2 * at0 - tz tk0) - tz tk2) ∧ (NdM A_q (nd) (nd2) (sy)) ∧ (r + 1 = nd2) ∧ (tz tk0 = 1)))) := by
  obtain ⟨d, rfl⟩ : ∃ d, dd = d + 1 := ⟨dd - 1, by omega⟩
  refine wk_of (e := jm288) rfl (Nat.le_of_ble_eq_true rfl) ?_
  show wj X d jm288 (0, [(0, .ref 66)], [], rV c0 c1 G A T) _
  have hF0 : Fr [10, 11, 12, 13, 14, 15, 16, 17, 18, 31] [15, 16, 17, 18, 19, 20, 21, 22, 24, 28] G A G A := Fr_rf
  have hP0 : Pf nd A A := Pf_rf
  have b_ln : (0 : Int) ≤ ln ∧ ln ≤ 3000 := e_ln ▸ hW.1 9
  have b_le : (0 : Int) ≤ le ∧ le ≤ 3000 := e_le ▸ hW.2 4 _
  have b_at0 : (0 : Int) ≤ at0 ∧ at0 ≤ 3002 := e_at0 ▸ hW.1 10
  have b_fk : (0 : Int) ≤ fk ∧ fk ≤ 6 := e_fk ▸ hW.1 16
  have b_op0 : (-2147483648 : Int) ≤ op0 ∧ op0 ≤ 2147483647 := e_op0 ▸ hW.1 15
  have b_nd : (0 : Int) ≤ nd ∧ nd ≤ 6999 := e_nd ▸ hW.1 31
  have z_tk0 := tz_f tk0
  have b_tk0 : (0 : Int) ≤ tk0 ∧ tk0 ≤ 5 := e_tk0 ▸ hW.1 11
  have b_sy : (0 : Int) ≤ sy ∧ sy ≤ 202 := e_sy ▸ hW.1 19
  refine jx_ld (pc_q := 1) (l_q := [(0, .ref 66)]) (st_q := [.ref 66]) rfl (jl_aloadn rfl) ?_
  refine jx_vr (pc_q := 4) (as := []) (st := []) rfl rfl rfl rfl ⟨rfl, rfl, Nat.le_of_ble_eq_true rfl⟩ rfl rfl (c_bad (dd := d) (hd := by omega) (hW := hW)  (fk := fk) (e_fk := show G 16 = fk from (e_fk))    ) (fun o V_q hq => ?_)
  obtain ⟨r1, rfl, rfl, b2, q3⟩ := hq
  refine .inr ⟨_, rfl, ?_⟩
  rcases q3 with ⟨rfl, a4⟩ | ⟨rfl, a5⟩
  · have _q : True := trivial
    refine jx_if_eq (pc_q := 7) (tg := 9) rfl rfl rfl (by decide) (by decide) (fun h6 => ?_) (fun h6 => ?_)
    · have _q := h6
      exact absurd h6 (by omega)
    · have _q := h6
      refine jx_ar (pc_q := 8) (st_q := [.int (i32 (0))]) rfl rfl rfl rfl ?_
      refine jx_rt (v := some (.int (i32 (0)))) rfl rfl rfl rfl rfl rfl ?_
      have z7 := tz_f (tk0)
      exact ⟨_, _, _, at0, fk, op0, nd, tk0, ec, rfl, rfl, hW, hF0, hP0, by omega, (e_at0), (e_fk), (e_op0), (e_nd), (e_tk0), e_ec, by omega, by omega, by omega, by omega, by omega, by omega, by first | exact Or.inl (⟨by omega, by omega, by omega, by omega, by omega, by omega⟩)⟩
  · have _q : True := trivial
    refine jx_if_eq (pc_q := 7) (tg := 9) rfl rfl rfl (by decide) (by decide) (fun h8 => ?_) (fun h8 => ?_)
    · have _q := h8
      refine jx_ld (pc_q := 10) (l_q := [(0, .ref 66)]) (st_q := [.ref 66]) rfl (jl_aloadn rfl) ?_
      have z9 := tz_f (tk0)
      refine jr_get (pc_q := 13) (i := 11) (v := .int (i32 (tk0))) rfl rfl (by decide) (rFv_eq (by decide) (show G 11 = tk0 from (e_tk0))) rfl ?_
      refine jx_ar (pc_q := 14) (st_q := [.int (i32 (3)), .int (i32 (tk0))]) rfl rfl rfl rfl ?_
      refine jx_icmp_eq (pc_q := 17) (tg := 35) rfl rfl rfl (Int.le_trans (by decide : (-2147483648 : Int) ≤ 0) b_tk0.1) (Int.le_trans b_tk0.2 (by decide : (5 : Int) ≤ 2147483647)) (by decide) (by decide) (fun h10 => ?_) (fun h10 => ?_)
      · have _q := h10
        refine jx_ld (pc_q := 36) (l_q := [(0, .ref 66)]) (st_q := [.ref 66]) rfl (jl_aloadn rfl) ?_
        have z11 := tz_f (tk0)
        refine jr_get (pc_q := 39) (i := 11) (v := .int (i32 (tk0))) rfl rfl (by decide) (rFv_eq (by decide) (show G 11 = tk0 from (e_tk0))) rfl ?_
        refine jx_ar (pc_q := 40) (st_q := [.int (i32 (3)), .int (i32 (tk0))]) rfl rfl rfl rfl ?_
        refine jx_icmp_ne (pc_q := 43) (tg := 50) rfl rfl rfl (Int.le_trans (by decide : (-2147483648 : Int) ≤ 0) b_tk0.1) (Int.le_trans b_tk0.2 (by decide : (5 : Int) ≤ 2147483647)) (by decide) (by decide) (fun h12 => ?_) (fun h12 => ?_)
        · have _q := h12
          refine jx_ld (pc_q := 51) (l_q := [(0, .ref 66)]) (st_q := [.ref 66]) rfl (jl_aloadn rfl) ?_
          refine jx_ar (pc_q := 53) (st_q := [.int (i32 (14)), .ref 66]) rfl rfl rfl rfl ?_
          have b13 : (-2147483648 : Int) ≤ G 13 ∧ G 13 ≤ 2147483647 := hW.1 13
          refine jx_vr (pc_q := 56) (as := [.int (i32 (14))]) (st := []) rfl rfl rfl rfl ⟨rfl, rfl, Nat.le_of_ble_eq_true rfl⟩ rfl rfl (c_isKey (dd := d) (hd := by omega) (hW := hW) (k := 14) (tk := tk0) (e_tk := show G 11 = tk0 from (e_tk0)) (tn := G 13) (e_tn := show G 13 = G 13 from rfl)  (h_k := ⟨(by decide), (by decide)⟩)  ) (fun o V_q hq => ?_)
          obtain ⟨r14, rfl, rfl, b15, q16⟩ := hq
          refine .inr ⟨_, rfl, ?_⟩
          rcases q16 with ⟨rfl, a17, a18, a19⟩ | rfl
          · have _q : True := trivial
            refine jx_if_eq (pc_q := 59) (tg := 63) rfl rfl rfl (by decide) (by decide) (fun h20 => ?_) (fun h20 => ?_)
            · have _q := h20
              exact absurd h20 (by omega)
            · have _q := h20
              refine jx_ar (pc_q := 60) (st_q := [.int (i32 (1))]) rfl rfl rfl rfl ?_
              refine jx_go (tg := 64) rfl rfl ?_
              refine jx_ld (pc_q := 65) (l_q := jSto1 [(0, .ref 66)] 1 (.int (i32 (1)))) (st_q := []) rfl rfl ?_
              obtain ⟨L21, eL21⟩ : ∃ q, q = jSto1 [(0, .ref 66)] 1 (.int (i32 (1))) := ⟨_, rfl⟩
              rw [← eL21]
              have gL21_0 : jGet L21 0 = some (.ref 66) := eL21 ▸ jg_ne (by decide) (rfl : jGet [(0, .ref 66)] 0 = some (.ref 66)) rfl
              have gL21_1 : jGet L21 1 = some (.int (i32 (1))) := eL21 ▸ jg_eq
              refine jx_ld (pc_q := 66) (l_q := L21) (st_q := [.ref 66]) rfl (jl_aloadn gL21_0) ?_
              refine jx_vr (pc_q := 69) (as := []) (st := []) rfl rfl rfl rfl ⟨rfl, rfl, Nat.le_of_ble_eq_true rfl⟩ rfl rfl (c_next (dd := d) (hd := by omega) (hW := hW)  (ln := ln) (e_ln := show G 9 = ln from (e_ln)) (le := le) (e_le := show A 4 (ln).toNat = le from (e_le)) (at0 := at0) (e_at0 := show G 10 = at0 from (e_at0))    (p_0 := by omega)) (fun o V_q hq => ?_)
              obtain ⟨G22, A23, at2_24, tk2_25, rfl, rfl, hW26, hF27, e28, e29, p30, p31, p32, -⟩ := hq
              have hF34 := Fr_tr hF0 hF27 (Fr_sub (by decide)) (Fr_sub (by decide))
              have hP35 := Pf_f hP0 hF27 (by decide)
              have ec36 : ecn A23 (G22 31) = ec := (ecn_f (hF27.2 15 rfl) (hF27.1 31 rfl)).trans e_ec
              have bat2_24 : (0 : Int) ≤ at2_24 ∧ at2_24 ≤ 3002 := e28 ▸ hW26.1 10
              have ztk2_25 := tz_b tk2_25
              have btk2_25 : (0 : Int) ≤ tk2_25 ∧ tk2_25 ≤ 5 := e29 ▸ hW26.1 11
              refine .inl ⟨rfl, ?_⟩
              have pz37 : at0 + tz tk2_25 ≤ at2_24 := by omega
              refine jx_ld (pc_q := 70) (l_q := L21) (st_q := [.ref 66]) rfl (jl_aloadn gL21_0) ?_
              refine jx_ar (pc_q := 71) (st_q := [.int (i32 (1)), .ref 66]) rfl rfl rfl rfl ?_
              refine jx_ld (pc_q := 72) (l_q := L21) (st_q := [.int (i32 (1)), .int (i32 (1)), .ref 66]) rfl (jl_iloadn gL21_1) ?_
              refine jx_ar (pc_q := 73) (st_q := [.int (i32 (0)), .int (i32 (1)), .int (i32 (1)), .ref 66]) rfl rfl rfl rfl ?_
              refine jx_ar (pc_q := 74) (st_q := [.int (i32 (0)), .int (i32 (0)), .int (i32 (1)), .int (i32 (1)), .ref 66]) rfl rfl rfl rfl ?_
              refine jx_ar (pc_q := 75) (st_q := [.int (i32 (0)), .int (i32 (0)), .int (i32 (0)), .int (i32 (1)), .int (i32 (1)), .ref 66]) rfl rfl rfl rfl ?_
              refine jx_vr (pc_q := 78) (as := [.int (i32 (1)), .int (i32 (1)), .int (i32 (0)), .int (i32 (0)), .int (i32 (0))]) (st := []) rfl rfl rfl rfl ⟨rfl, rfl, Nat.le_of_ble_eq_true rfl⟩ rfl rfl (c_node_o (dd := d) (hd := by omega) (hW := hW26) (kind := 1) (a := 1) (b := 0) (c := 0) (e := 0) (nd := nd) (e_nd := show G22 31 = nd from ((hF27.1 31 rfl).trans (e_nd))) (ec := ec) (e_ec := show ecn A23 (G22 31) = ec from ec36) (sy := sy) (e_sy := show G22 19 = sy from ((hF27.1 19 rfl).trans (e_sy)))  (h_kind := ⟨(by decide), (by decide)⟩) (h_a := ⟨(by decide), (by decide)⟩) (h_b := ⟨(by decide), (by decide)⟩) (h_c := ⟨(by decide), (by decide)⟩) (h_e := ⟨(by decide), (by decide)⟩)  (p_0 := by omega) (p_1 := by omega) (p_2 := by omega)) (fun o V_q hq => ?_)
              obtain ⟨G38, A39, nd2_40, ec2_41, rfl, rfl, hW42, hF43, hQ44, e45, e46, p47, p48, p49, p50, -⟩ := hq
              have hF52 := Fr_tr hF34 hF43 (Fr_sub (by decide)) (Fr_sub (by decide))
              have hP53 := Pf_tr hP35 hQ44 (by omega)
              have bnd2_40 : (0 : Int) ≤ nd2_40 ∧ nd2_40 ≤ 6999 := e45 ▸ hW42.1 31
              refine .inr ⟨_, rfl, ?_⟩
              refine jx_rt (v := some (.int (i32 (nd)))) rfl rfl rfl rfl rfl rfl ?_
              have z54 := tz_f (tk2_25)
              exact ⟨_, _, _, at2_24, fk, op0, nd2_40, tk2_25, ec2_41, rfl, rfl, hW42, hF52, hP53, by omega, ((hF43.1 10 rfl).trans (e28)), ((hF43.1 16 rfl).trans ((hF27.1 16 rfl).trans (e_fk))), ((hF43.1 15 rfl).trans ((hF27.1 15 rfl).trans (e_op0))), (e45), ((hF43.1 11 rfl).trans (e29)), e46, by omega, by omega, by omega, by omega, by omega, by omega, by first | exact Or.inr (Or.inr ((⟨by omega, by omega, by omega, (wE_num p49 (by omega) (by omega)), by omega, (NdM_w p50 (by omega) (by omega) (by omega)), by omega, by omega⟩)))⟩
          · have _q : True := trivial
            refine jx_if_eq (pc_q := 59) (tg := 63) rfl rfl rfl (by decide) (by decide) (fun h55 => ?_) (fun h55 => ?_)
            · have _q := h55
              refine jx_ar (pc_q := 64) (st_q := [.int (i32 (0))]) rfl rfl rfl rfl ?_
              refine jx_ld (pc_q := 65) (l_q := jSto1 [(0, .ref 66)] 1 (.int (i32 (0)))) (st_q := []) rfl rfl ?_
              obtain ⟨L56, eL56⟩ : ∃ q, q = jSto1 [(0, .ref 66)] 1 (.int (i32 (0))) := ⟨_, rfl⟩
              rw [← eL56]
              have gL56_0 : jGet L56 0 = some (.ref 66) := eL56 ▸ jg_ne (by decide) (rfl : jGet [(0, .ref 66)] 0 = some (.ref 66)) rfl
              have gL56_1 : jGet L56 1 = some (.int (i32 (0))) := eL56 ▸ jg_eq
              refine jx_ld (pc_q := 66) (l_q := L56) (st_q := [.ref 66]) rfl (jl_aloadn gL56_0) ?_
              refine jx_vr (pc_q := 69) (as := []) (st := []) rfl rfl rfl rfl ⟨rfl, rfl, Nat.le_of_ble_eq_true rfl⟩ rfl rfl (c_next (dd := d) (hd := by omega) (hW := hW)  (ln := ln) (e_ln := show G 9 = ln from (e_ln)) (le := le) (e_le := show A 4 (ln).toNat = le from (e_le)) (at0 := at0) (e_at0 := show G 10 = at0 from (e_at0))    (p_0 := by omega)) (fun o V_q hq => ?_)
              obtain ⟨G57, A58, at2_59, tk2_60, rfl, rfl, hW61, hF62, e63, e64, p65, p66, p67, -⟩ := hq
              have hF69 := Fr_tr hF0 hF62 (Fr_sub (by decide)) (Fr_sub (by decide))
              have hP70 := Pf_f hP0 hF62 (by decide)
              have ec71 : ecn A58 (G57 31) = ec := (ecn_f (hF62.2 15 rfl) (hF62.1 31 rfl)).trans e_ec
              have bat2_59 : (0 : Int) ≤ at2_59 ∧ at2_59 ≤ 3002 := e63 ▸ hW61.1 10
              have ztk2_60 := tz_b tk2_60
              have btk2_60 : (0 : Int) ≤ tk2_60 ∧ tk2_60 ≤ 5 := e64 ▸ hW61.1 11
              refine .inl ⟨rfl, ?_⟩
              have pz72 : at0 + tz tk2_60 ≤ at2_59 := by omega
              refine jx_ld (pc_q := 70) (l_q := L56) (st_q := [.ref 66]) rfl (jl_aloadn gL56_0) ?_
              refine jx_ar (pc_q := 71) (st_q := [.int (i32 (1)), .ref 66]) rfl rfl rfl rfl ?_
              refine jx_ld (pc_q := 72) (l_q := L56) (st_q := [.int (i32 (0)), .int (i32 (1)), .ref 66]) rfl (jl_iloadn gL56_1) ?_
              refine jx_ar (pc_q := 73) (st_q := [.int (i32 (0)), .int (i32 (0)), .int (i32 (1)), .ref 66]) rfl rfl rfl rfl ?_
              refine jx_ar (pc_q := 74) (st_q := [.int (i32 (0)), .int (i32 (0)), .int (i32 (0)), .int (i32 (1)), .ref 66]) rfl rfl rfl rfl ?_
              refine jx_ar (pc_q := 75) (st_q := [.int (i32 (0)), .int (i32 (0)), .int (i32 (0)), .int (i32 (0)), .int (i32 (1)), .ref 66]) rfl rfl rfl rfl ?_
              refine jx_vr (pc_q := 78) (as := [.int (i32 (1)), .int (i32 (0)), .int (i32 (0)), .int (i32 (0)), .int (i32 (0))]) (st := []) rfl rfl rfl rfl ⟨rfl, rfl, Nat.le_of_ble_eq_true rfl⟩ rfl rfl (c_node_o (dd := d) (hd := by omega) (hW := hW61) (kind := 1) (a := 0) (b := 0) (c := 0) (e := 0) (nd := nd) (e_nd := show G57 31 = nd from ((hF62.1 31 rfl).trans (e_nd))) (ec := ec) (e_ec := show ecn A58 (G57 31) = ec from ec71) (sy := sy) (e_sy := show G57 19 = sy from ((hF62.1 19 rfl).trans (e_sy)))  (h_kind := ⟨(by decide), (by decide)⟩) (h_a := ⟨(by decide), (by decide)⟩) (h_b := ⟨(by decide), (by decide)⟩) (h_c := ⟨(by decide), (by decide)⟩) (h_e := ⟨(by decide), (by decide)⟩)  (p_0 := by omega) (p_1 := by omega) (p_2 := by omega)) (fun o V_q hq => ?_)
              obtain ⟨G73, A74, nd2_75, ec2_76, rfl, rfl, hW77, hF78, hQ79, e80, e81, p82, p83, p84, p85, -⟩ := hq
              have hF87 := Fr_tr hF69 hF78 (Fr_sub (by decide)) (Fr_sub (by decide))
              have hP88 := Pf_tr hP70 hQ79 (by omega)
              have bnd2_75 : (0 : Int) ≤ nd2_75 ∧ nd2_75 ≤ 6999 := e80 ▸ hW77.1 31
              refine .inr ⟨_, rfl, ?_⟩
              refine jx_rt (v := some (.int (i32 (nd)))) rfl rfl rfl rfl rfl rfl ?_
              have z89 := tz_f (tk2_60)
              exact ⟨_, _, _, at2_59, fk, op0, nd2_75, tk2_60, ec2_76, rfl, rfl, hW77, hF87, hP88, by omega, ((hF78.1 10 rfl).trans (e63)), ((hF78.1 16 rfl).trans ((hF62.1 16 rfl).trans (e_fk))), ((hF78.1 15 rfl).trans ((hF62.1 15 rfl).trans (e_op0))), (e80), ((hF78.1 11 rfl).trans (e64)), e81, by omega, by omega, by omega, by omega, by omega, by omega, by first | exact Or.inr (Or.inr ((⟨by omega, by omega, by omega, (wE_num p84 (by omega) (by omega)), by omega, (NdM_w p85 (by omega) (by omega) (by omega)), by omega, by omega⟩)))⟩
            · have _q := h55
              exact absurd h55 (by omega)
        · have _q := h12
          refine jx_ld (pc_q := 44) (l_q := [(0, .ref 66)]) (st_q := [.ref 66]) rfl (jl_aloadn rfl) ?_
          have b90 : (-2147483648 : Int) ≤ G 13 ∧ G 13 ≤ 2147483647 := hW.1 13
          refine jr_get (pc_q := 47) (i := 13) (v := .int (i32 (G 13))) rfl rfl (by decide) rfl rfl ?_
          refine jx_go (tg := 64) rfl rfl ?_
          refine jx_ld (pc_q := 65) (l_q := jSto1 [(0, .ref 66)] 1 (.int (i32 (G 13)))) (st_q := []) rfl rfl ?_
          obtain ⟨L91, eL91⟩ : ∃ q, q = jSto1 [(0, .ref 66)] 1 (.int (i32 (G 13))) := ⟨_, rfl⟩
          rw [← eL91]
          have gL91_0 : jGet L91 0 = some (.ref 66) := eL91 ▸ jg_ne (by decide) (rfl : jGet [(0, .ref 66)] 0 = some (.ref 66)) rfl
          have gL91_1 : jGet L91 1 = some (.int (i32 (G 13))) := eL91 ▸ jg_eq
          refine jx_ld (pc_q := 66) (l_q := L91) (st_q := [.ref 66]) rfl (jl_aloadn gL91_0) ?_
          refine jx_vr (pc_q := 69) (as := []) (st := []) rfl rfl rfl rfl ⟨rfl, rfl, Nat.le_of_ble_eq_true rfl⟩ rfl rfl (c_next (dd := d) (hd := by omega) (hW := hW)  (ln := ln) (e_ln := show G 9 = ln from (e_ln)) (le := le) (e_le := show A 4 (ln).toNat = le from (e_le)) (at0 := at0) (e_at0 := show G 10 = at0 from (e_at0))    (p_0 := by omega)) (fun o V_q hq => ?_)
          obtain ⟨G92, A93, at2_94, tk2_95, rfl, rfl, hW96, hF97, e98, e99, p100, p101, p102, -⟩ := hq
          have hF104 := Fr_tr hF0 hF97 (Fr_sub (by decide)) (Fr_sub (by decide))
          have hP105 := Pf_f hP0 hF97 (by decide)
          have ec106 : ecn A93 (G92 31) = ec := (ecn_f (hF97.2 15 rfl) (hF97.1 31 rfl)).trans e_ec
          have bat2_94 : (0 : Int) ≤ at2_94 ∧ at2_94 ≤ 3002 := e98 ▸ hW96.1 10
          have ztk2_95 := tz_b tk2_95
          have btk2_95 : (0 : Int) ≤ tk2_95 ∧ tk2_95 ≤ 5 := e99 ▸ hW96.1 11
          refine .inl ⟨rfl, ?_⟩
          have pz107 : at0 + tz tk2_95 ≤ at2_94 := by omega
          refine jx_ld (pc_q := 70) (l_q := L91) (st_q := [.ref 66]) rfl (jl_aloadn gL91_0) ?_
          refine jx_ar (pc_q := 71) (st_q := [.int (i32 (1)), .ref 66]) rfl rfl rfl rfl ?_
          refine jx_ld (pc_q := 72) (l_q := L91) (st_q := [.int (i32 (G 13)), .int (i32 (1)), .ref 66]) rfl (jl_iloadn gL91_1) ?_
          refine jx_ar (pc_q := 73) (st_q := [.int (i32 (0)), .int (i32 (G 13)), .int (i32 (1)), .ref 66]) rfl rfl rfl rfl ?_
          refine jx_ar (pc_q := 74) (st_q := [.int (i32 (0)), .int (i32 (0)), .int (i32 (G 13)), .int (i32 (1)), .ref 66]) rfl rfl rfl rfl ?_
          refine jx_ar (pc_q := 75) (st_q := [.int (i32 (0)), .int (i32 (0)), .int (i32 (0)), .int (i32 (G 13)), .int (i32 (1)), .ref 66]) rfl rfl rfl rfl ?_
          refine jx_vr (pc_q := 78) (as := [.int (i32 (1)), .int (i32 (G 13)), .int (i32 (0)), .int (i32 (0)), .int (i32 (0))]) (st := []) rfl rfl rfl rfl ⟨rfl, rfl, Nat.le_of_ble_eq_true rfl⟩ rfl rfl (c_node_o (dd := d) (hd := by omega) (hW := hW96) (kind := 1) (a := G 13) (b := 0) (c := 0) (e := 0) (nd := nd) (e_nd := show G92 31 = nd from ((hF97.1 31 rfl).trans (e_nd))) (ec := ec) (e_ec := show ecn A93 (G92 31) = ec from ec106) (sy := sy) (e_sy := show G92 19 = sy from ((hF97.1 19 rfl).trans (e_sy)))  (h_kind := ⟨(by decide), (by decide)⟩) (h_a := ⟨(Int.le_trans (by decide : (-2147483648 : Int) ≤ -2147483648) b90.1), (Int.le_trans b90.2 (by decide : (2147483647 : Int) ≤ 2147483647))⟩) (h_b := ⟨(by decide), (by decide)⟩) (h_c := ⟨(by decide), (by decide)⟩) (h_e := ⟨(by decide), (by decide)⟩)  (p_0 := by omega) (p_1 := by omega) (p_2 := by omega)) (fun o V_q hq => ?_)
          obtain ⟨G108, A109, nd2_110, ec2_111, rfl, rfl, hW112, hF113, hQ114, e115, e116, p117, p118, p119, p120, -⟩ := hq
          have hF122 := Fr_tr hF104 hF113 (Fr_sub (by decide)) (Fr_sub (by decide))
          have hP123 := Pf_tr hP105 hQ114 (by omega)
          have bnd2_110 : (0 : Int) ≤ nd2_110 ∧ nd2_110 ≤ 6999 := e115 ▸ hW112.1 31
          refine .inr ⟨_, rfl, ?_⟩
          refine jx_rt (v := some (.int (i32 (nd)))) rfl rfl rfl rfl rfl rfl ?_
          have z124 := tz_f (tk2_95)
          exact ⟨_, _, _, at2_94, fk, op0, nd2_110, tk2_95, ec2_111, rfl, rfl, hW112, hF122, hP123, by omega, ((hF113.1 10 rfl).trans (e98)), ((hF113.1 16 rfl).trans ((hF97.1 16 rfl).trans (e_fk))), ((hF113.1 15 rfl).trans ((hF97.1 15 rfl).trans (e_op0))), (e115), ((hF113.1 11 rfl).trans (e99)), e116, by omega, by omega, by omega, by omega, by omega, by omega, by first | exact Or.inr (Or.inr ((⟨by omega, by omega, by omega, (wE_num p119 (by omega) (by omega)), by omega, (NdM_w p120 (by omega) (by omega) (by omega)), by omega, by omega⟩)))⟩
      · have _q := h10
        refine jx_ld (pc_q := 18) (l_q := [(0, .ref 66)]) (st_q := [.ref 66]) rfl (jl_aloadn rfl) ?_
        refine jx_ar (pc_q := 20) (st_q := [.int (i32 (14)), .ref 66]) rfl rfl rfl rfl ?_
        have b125 : (-2147483648 : Int) ≤ G 13 ∧ G 13 ≤ 2147483647 := hW.1 13
        refine jx_vr (pc_q := 23) (as := [.int (i32 (14))]) (st := []) rfl rfl rfl rfl ⟨rfl, rfl, Nat.le_of_ble_eq_true rfl⟩ rfl rfl (c_isKey (dd := d) (hd := by omega) (hW := hW) (k := 14) (tk := tk0) (e_tk := show G 11 = tk0 from (e_tk0)) (tn := G 13) (e_tn := show G 13 = G 13 from rfl)  (h_k := ⟨(by decide), (by decide)⟩)  ) (fun o V_q hq => ?_)
        obtain ⟨r126, rfl, rfl, b127, q128⟩ := hq
        refine .inr ⟨_, rfl, ?_⟩
        rcases q128 with ⟨rfl, a129, a130, a131⟩ | rfl
        · have _q : True := trivial
          refine jx_if_ne (pc_q := 26) (tg := 35) rfl rfl rfl (by decide) (by decide) (fun h132 => ?_) (fun h132 => ?_)
          · have _q := h132
            refine jx_ld (pc_q := 36) (l_q := [(0, .ref 66)]) (st_q := [.ref 66]) rfl (jl_aloadn rfl) ?_
            have z133 := tz_f (tk0)
            refine jr_get (pc_q := 39) (i := 11) (v := .int (i32 (tk0))) rfl rfl (by decide) (rFv_eq (by decide) (show G 11 = tk0 from (e_tk0))) rfl ?_
            refine jx_ar (pc_q := 40) (st_q := [.int (i32 (3)), .int (i32 (tk0))]) rfl rfl rfl rfl ?_
            refine jx_icmp_ne (pc_q := 43) (tg := 50) rfl rfl rfl (Int.le_trans (by decide : (-2147483648 : Int) ≤ 0) b_tk0.1) (Int.le_trans b_tk0.2 (by decide : (5 : Int) ≤ 2147483647)) (by decide) (by decide) (fun h134 => ?_) (fun h134 => ?_)
            · have _q := h134
              refine jx_ld (pc_q := 51) (l_q := [(0, .ref 66)]) (st_q := [.ref 66]) rfl (jl_aloadn rfl) ?_
              refine jx_ar (pc_q := 53) (st_q := [.int (i32 (14)), .ref 66]) rfl rfl rfl rfl ?_
              refine jx_vr (pc_q := 56) (as := [.int (i32 (14))]) (st := []) rfl rfl rfl rfl ⟨rfl, rfl, Nat.le_of_ble_eq_true rfl⟩ rfl rfl (c_isKey (dd := d) (hd := by omega) (hW := hW) (k := 14) (tk := tk0) (e_tk := show G 11 = tk0 from (e_tk0)) (tn := G 13) (e_tn := show G 13 = G 13 from rfl)  (h_k := ⟨(by decide), (by decide)⟩)  ) (fun o V_q hq => ?_)
              obtain ⟨r135, rfl, rfl, b136, q137⟩ := hq
              refine .inr ⟨_, rfl, ?_⟩
              rcases q137 with ⟨rfl, a138, a139, a140⟩ | rfl
              · have _q : True := trivial
                refine jx_if_eq (pc_q := 59) (tg := 63) rfl rfl rfl (by decide) (by decide) (fun h141 => ?_) (fun h141 => ?_)
                · have _q := h141
                  exact absurd h141 (by omega)
                · have _q := h141
                  refine jx_ar (pc_q := 60) (st_q := [.int (i32 (1))]) rfl rfl rfl rfl ?_
                  refine jx_go (tg := 64) rfl rfl ?_
                  refine jx_ld (pc_q := 65) (l_q := jSto1 [(0, .ref 66)] 1 (.int (i32 (1)))) (st_q := []) rfl rfl ?_
                  obtain ⟨L142, eL142⟩ : ∃ q, q = jSto1 [(0, .ref 66)] 1 (.int (i32 (1))) := ⟨_, rfl⟩
                  rw [← eL142]
                  have gL142_0 : jGet L142 0 = some (.ref 66) := eL142 ▸ jg_ne (by decide) (rfl : jGet [(0, .ref 66)] 0 = some (.ref 66)) rfl
                  have gL142_1 : jGet L142 1 = some (.int (i32 (1))) := eL142 ▸ jg_eq
                  refine jx_ld (pc_q := 66) (l_q := L142) (st_q := [.ref 66]) rfl (jl_aloadn gL142_0) ?_
                  refine jx_vr (pc_q := 69) (as := []) (st := []) rfl rfl rfl rfl ⟨rfl, rfl, Nat.le_of_ble_eq_true rfl⟩ rfl rfl (c_next (dd := d) (hd := by omega) (hW := hW)  (ln := ln) (e_ln := show G 9 = ln from (e_ln)) (le := le) (e_le := show A 4 (ln).toNat = le from (e_le)) (at0 := at0) (e_at0 := show G 10 = at0 from (e_at0))    (p_0 := by omega)) (fun o V_q hq => ?_)
                  obtain ⟨G143, A144, at2_145, tk2_146, rfl, rfl, hW147, hF148, e149, e150, p151, p152, p153, -⟩ := hq
                  have hF155 := Fr_tr hF0 hF148 (Fr_sub (by decide)) (Fr_sub (by decide))
                  have hP156 := Pf_f hP0 hF148 (by decide)
                  have ec157 : ecn A144 (G143 31) = ec := (ecn_f (hF148.2 15 rfl) (hF148.1 31 rfl)).trans e_ec
                  have bat2_145 : (0 : Int) ≤ at2_145 ∧ at2_145 ≤ 3002 := e149 ▸ hW147.1 10
                  have ztk2_146 := tz_b tk2_146
                  have btk2_146 : (0 : Int) ≤ tk2_146 ∧ tk2_146 ≤ 5 := e150 ▸ hW147.1 11
                  refine .inl ⟨rfl, ?_⟩
                  have pz158 : at0 + tz tk2_146 ≤ at2_145 := by omega
                  refine jx_ld (pc_q := 70) (l_q := L142) (st_q := [.ref 66]) rfl (jl_aloadn gL142_0) ?_
                  refine jx_ar (pc_q := 71) (st_q := [.int (i32 (1)), .ref 66]) rfl rfl rfl rfl ?_
                  refine jx_ld (pc_q := 72) (l_q := L142) (st_q := [.int (i32 (1)), .int (i32 (1)), .ref 66]) rfl (jl_iloadn gL142_1) ?_
                  refine jx_ar (pc_q := 73) (st_q := [.int (i32 (0)), .int (i32 (1)), .int (i32 (1)), .ref 66]) rfl rfl rfl rfl ?_
                  refine jx_ar (pc_q := 74) (st_q := [.int (i32 (0)), .int (i32 (0)), .int (i32 (1)), .int (i32 (1)), .ref 66]) rfl rfl rfl rfl ?_
                  refine jx_ar (pc_q := 75) (st_q := [.int (i32 (0)), .int (i32 (0)), .int (i32 (0)), .int (i32 (1)), .int (i32 (1)), .ref 66]) rfl rfl rfl rfl ?_
                  refine jx_vr (pc_q := 78) (as := [.int (i32 (1)), .int (i32 (1)), .int (i32 (0)), .int (i32 (0)), .int (i32 (0))]) (st := []) rfl rfl rfl rfl ⟨rfl, rfl, Nat.le_of_ble_eq_true rfl⟩ rfl rfl (c_node_o (dd := d) (hd := by omega) (hW := hW147) (kind := 1) (a := 1) (b := 0) (c := 0) (e := 0) (nd := nd) (e_nd := show G143 31 = nd from ((hF148.1 31 rfl).trans (e_nd))) (ec := ec) (e_ec := show ecn A144 (G143 31) = ec from ec157) (sy := sy) (e_sy := show G143 19 = sy from ((hF148.1 19 rfl).trans (e_sy)))  (h_kind := ⟨(by decide), (by decide)⟩) (h_a := ⟨(by decide), (by decide)⟩) (h_b := ⟨(by decide), (by decide)⟩) (h_c := ⟨(by decide), (by decide)⟩) (h_e := ⟨(by decide), (by decide)⟩)  (p_0 := by omega) (p_1 := by omega) (p_2 := by omega)) (fun o V_q hq => ?_)
                  obtain ⟨G159, A160, nd2_161, ec2_162, rfl, rfl, hW163, hF164, hQ165, e166, e167, p168, p169, p170, p171, -⟩ := hq
                  have hF173 := Fr_tr hF155 hF164 (Fr_sub (by decide)) (Fr_sub (by decide))
                  have hP174 := Pf_tr hP156 hQ165 (by omega)
                  have bnd2_161 : (0 : Int) ≤ nd2_161 ∧ nd2_161 ≤ 6999 := e166 ▸ hW163.1 31
                  refine .inr ⟨_, rfl, ?_⟩
                  refine jx_rt (v := some (.int (i32 (nd)))) rfl rfl rfl rfl rfl rfl ?_
                  have z175 := tz_f (tk2_146)
                  exact ⟨_, _, _, at2_145, fk, op0, nd2_161, tk2_146, ec2_162, rfl, rfl, hW163, hF173, hP174, by omega, ((hF164.1 10 rfl).trans (e149)), ((hF164.1 16 rfl).trans ((hF148.1 16 rfl).trans (e_fk))), ((hF164.1 15 rfl).trans ((hF148.1 15 rfl).trans (e_op0))), (e166), ((hF164.1 11 rfl).trans (e150)), e167, by omega, by omega, by omega, by omega, by omega, by omega, by first | exact Or.inr (Or.inr ((⟨by omega, by omega, by omega, (wE_num p170 (by omega) (by omega)), by omega, (NdM_w p171 (by omega) (by omega) (by omega)), by omega, by omega⟩)))⟩
              · have _q : True := trivial
                refine jx_if_eq (pc_q := 59) (tg := 63) rfl rfl rfl (by decide) (by decide) (fun h176 => ?_) (fun h176 => ?_)
                · have _q := h176
                  refine jx_ar (pc_q := 64) (st_q := [.int (i32 (0))]) rfl rfl rfl rfl ?_
                  refine jx_ld (pc_q := 65) (l_q := jSto1 [(0, .ref 66)] 1 (.int (i32 (0)))) (st_q := []) rfl rfl ?_
                  obtain ⟨L177, eL177⟩ : ∃ q, q = jSto1 [(0, .ref 66)] 1 (.int (i32 (0))) := ⟨_, rfl⟩
                  rw [← eL177]
                  have gL177_0 : jGet L177 0 = some (.ref 66) := eL177 ▸ jg_ne (by decide) (rfl : jGet [(0, .ref 66)] 0 = some (.ref 66)) rfl
                  have gL177_1 : jGet L177 1 = some (.int (i32 (0))) := eL177 ▸ jg_eq
                  refine jx_ld (pc_q := 66) (l_q := L177) (st_q := [.ref 66]) rfl (jl_aloadn gL177_0) ?_
                  refine jx_vr (pc_q := 69) (as := []) (st := []) rfl rfl rfl rfl ⟨rfl, rfl, Nat.le_of_ble_eq_true rfl⟩ rfl rfl (c_next (dd := d) (hd := by omega) (hW := hW)  (ln := ln) (e_ln := show G 9 = ln from (e_ln)) (le := le) (e_le := show A 4 (ln).toNat = le from (e_le)) (at0 := at0) (e_at0 := show G 10 = at0 from (e_at0))    (p_0 := by omega)) (fun o V_q hq => ?_)
                  obtain ⟨G178, A179, at2_180, tk2_181, rfl, rfl, hW182, hF183, e184, e185, p186, p187, p188, -⟩ := hq
                  have hF190 := Fr_tr hF0 hF183 (Fr_sub (by decide)) (Fr_sub (by decide))
                  have hP191 := Pf_f hP0 hF183 (by decide)
                  have ec192 : ecn A179 (G178 31) = ec := (ecn_f (hF183.2 15 rfl) (hF183.1 31 rfl)).trans e_ec
                  have bat2_180 : (0 : Int) ≤ at2_180 ∧ at2_180 ≤ 3002 := e184 ▸ hW182.1 10
                  have ztk2_181 := tz_b tk2_181
                  have btk2_181 : (0 : Int) ≤ tk2_181 ∧ tk2_181 ≤ 5 := e185 ▸ hW182.1 11
                  refine .inl ⟨rfl, ?_⟩
                  have pz193 : at0 + tz tk2_181 ≤ at2_180 := by omega
                  refine jx_ld (pc_q := 70) (l_q := L177) (st_q := [.ref 66]) rfl (jl_aloadn gL177_0) ?_
                  refine jx_ar (pc_q := 71) (st_q := [.int (i32 (1)), .ref 66]) rfl rfl rfl rfl ?_
                  refine jx_ld (pc_q := 72) (l_q := L177) (st_q := [.int (i32 (0)), .int (i32 (1)), .ref 66]) rfl (jl_iloadn gL177_1) ?_
                  refine jx_ar (pc_q := 73) (st_q := [.int (i32 (0)), .int (i32 (0)), .int (i32 (1)), .ref 66]) rfl rfl rfl rfl ?_
                  refine jx_ar (pc_q := 74) (st_q := [.int (i32 (0)), .int (i32 (0)), .int (i32 (0)), .int (i32 (1)), .ref 66]) rfl rfl rfl rfl ?_
                  refine jx_ar (pc_q := 75) (st_q := [.int (i32 (0)), .int (i32 (0)), .int (i32 (0)), .int (i32 (0)), .int (i32 (1)), .ref 66]) rfl rfl rfl rfl ?_
                  refine jx_vr (pc_q := 78) (as := [.int (i32 (1)), .int (i32 (0)), .int (i32 (0)), .int (i32 (0)), .int (i32 (0))]) (st := []) rfl rfl rfl rfl ⟨rfl, rfl, Nat.le_of_ble_eq_true rfl⟩ rfl rfl (c_node_o (dd := d) (hd := by omega) (hW := hW182) (kind := 1) (a := 0) (b := 0) (c := 0) (e := 0) (nd := nd) (e_nd := show G178 31 = nd from ((hF183.1 31 rfl).trans (e_nd))) (ec := ec) (e_ec := show ecn A179 (G178 31) = ec from ec192) (sy := sy) (e_sy := show G178 19 = sy from ((hF183.1 19 rfl).trans (e_sy)))  (h_kind := ⟨(by decide), (by decide)⟩) (h_a := ⟨(by decide), (by decide)⟩) (h_b := ⟨(by decide), (by decide)⟩) (h_c := ⟨(by decide), (by decide)⟩) (h_e := ⟨(by decide), (by decide)⟩)  (p_0 := by omega) (p_1 := by omega) (p_2 := by omega)) (fun o V_q hq => ?_)
                  obtain ⟨G194, A195, nd2_196, ec2_197, rfl, rfl, hW198, hF199, hQ200, e201, e202, p203, p204, p205, p206, -⟩ := hq
                  have hF208 := Fr_tr hF190 hF199 (Fr_sub (by decide)) (Fr_sub (by decide))
                  have hP209 := Pf_tr hP191 hQ200 (by omega)
                  have bnd2_196 : (0 : Int) ≤ nd2_196 ∧ nd2_196 ≤ 6999 := e201 ▸ hW198.1 31
                  refine .inr ⟨_, rfl, ?_⟩
                  refine jx_rt (v := some (.int (i32 (nd)))) rfl rfl rfl rfl rfl rfl ?_
                  have z210 := tz_f (tk2_181)
                  exact ⟨_, _, _, at2_180, fk, op0, nd2_196, tk2_181, ec2_197, rfl, rfl, hW198, hF208, hP209, by omega, ((hF199.1 10 rfl).trans (e184)), ((hF199.1 16 rfl).trans ((hF183.1 16 rfl).trans (e_fk))), ((hF199.1 15 rfl).trans ((hF183.1 15 rfl).trans (e_op0))), (e201), ((hF199.1 11 rfl).trans (e185)), e202, by omega, by omega, by omega, by omega, by omega, by omega, by first | exact Or.inr (Or.inr ((⟨by omega, by omega, by omega, (wE_num p205 (by omega) (by omega)), by omega, (NdM_w p206 (by omega) (by omega) (by omega)), by omega, by omega⟩)))⟩
                · have _q := h176
                  exact absurd h176 (by omega)
            · have _q := h134
              refine jx_ld (pc_q := 44) (l_q := [(0, .ref 66)]) (st_q := [.ref 66]) rfl (jl_aloadn rfl) ?_
              refine jr_get (pc_q := 47) (i := 13) (v := .int (i32 (G 13))) rfl rfl (by decide) rfl rfl ?_
              refine jx_go (tg := 64) rfl rfl ?_
              refine jx_ld (pc_q := 65) (l_q := jSto1 [(0, .ref 66)] 1 (.int (i32 (G 13)))) (st_q := []) rfl rfl ?_
              obtain ⟨L211, eL211⟩ : ∃ q, q = jSto1 [(0, .ref 66)] 1 (.int (i32 (G 13))) := ⟨_, rfl⟩
              rw [← eL211]
              have gL211_0 : jGet L211 0 = some (.ref 66) := eL211 ▸ jg_ne (by decide) (rfl : jGet [(0, .ref 66)] 0 = some (.ref 66)) rfl
              have gL211_1 : jGet L211 1 = some (.int (i32 (G 13))) := eL211 ▸ jg_eq
              refine jx_ld (pc_q := 66) (l_q := L211) (st_q := [.ref 66]) rfl (jl_aloadn gL211_0) ?_
              refine jx_vr (pc_q := 69) (as := []) (st := []) rfl rfl rfl rfl ⟨rfl, rfl, Nat.le_of_ble_eq_true rfl⟩ rfl rfl (c_next (dd := d) (hd := by omega) (hW := hW)  (ln := ln) (e_ln := show G 9 = ln from (e_ln)) (le := le) (e_le := show A 4 (ln).toNat = le from (e_le)) (at0 := at0) (e_at0 := show G 10 = at0 from (e_at0))    (p_0 := by omega)) (fun o V_q hq => ?_)
              obtain ⟨G212, A213, at2_214, tk2_215, rfl, rfl, hW216, hF217, e218, e219, p220, p221, p222, -⟩ := hq
              have hF224 := Fr_tr hF0 hF217 (Fr_sub (by decide)) (Fr_sub (by decide))
              have hP225 := Pf_f hP0 hF217 (by decide)
              have ec226 : ecn A213 (G212 31) = ec := (ecn_f (hF217.2 15 rfl) (hF217.1 31 rfl)).trans e_ec
              have bat2_214 : (0 : Int) ≤ at2_214 ∧ at2_214 ≤ 3002 := e218 ▸ hW216.1 10
              have ztk2_215 := tz_b tk2_215
              have btk2_215 : (0 : Int) ≤ tk2_215 ∧ tk2_215 ≤ 5 := e219 ▸ hW216.1 11
              refine .inl ⟨rfl, ?_⟩
              have pz227 : at0 + tz tk2_215 ≤ at2_214 := by omega
              refine jx_ld (pc_q := 70) (l_q := L211) (st_q := [.ref 66]) rfl (jl_aloadn gL211_0) ?_
              refine jx_ar (pc_q := 71) (st_q := [.int (i32 (1)), .ref 66]) rfl rfl rfl rfl ?_
              refine jx_ld (pc_q := 72) (l_q := L211) (st_q := [.int (i32 (G 13)), .int (i32 (1)), .ref 66]) rfl (jl_iloadn gL211_1) ?_
              refine jx_ar (pc_q := 73) (st_q := [.int (i32 (0)), .int (i32 (G 13)), .int (i32 (1)), .ref 66]) rfl rfl rfl rfl ?_
              refine jx_ar (pc_q := 74) (st_q := [.int (i32 (0)), .int (i32 (0)), .int (i32 (G 13)), .int (i32 (1)), .ref 66]) rfl rfl rfl rfl ?_
              refine jx_ar (pc_q := 75) (st_q := [.int (i32 (0)), .int (i32 (0)), .int (i32 (0)), .int (i32 (G 13)), .int (i32 (1)), .ref 66]) rfl rfl rfl rfl ?_
              refine jx_vr (pc_q := 78) (as := [.int (i32 (1)), .int (i32 (G 13)), .int (i32 (0)), .int (i32 (0)), .int (i32 (0))]) (st := []) rfl rfl rfl rfl ⟨rfl, rfl, Nat.le_of_ble_eq_true rfl⟩ rfl rfl (c_node_o (dd := d) (hd := by omega) (hW := hW216) (kind := 1) (a := G 13) (b := 0) (c := 0) (e := 0) (nd := nd) (e_nd := show G212 31 = nd from ((hF217.1 31 rfl).trans (e_nd))) (ec := ec) (e_ec := show ecn A213 (G212 31) = ec from ec226) (sy := sy) (e_sy := show G212 19 = sy from ((hF217.1 19 rfl).trans (e_sy)))  (h_kind := ⟨(by decide), (by decide)⟩) (h_a := ⟨(Int.le_trans (by decide : (-2147483648 : Int) ≤ -2147483648) b125.1), (Int.le_trans b125.2 (by decide : (2147483647 : Int) ≤ 2147483647))⟩) (h_b := ⟨(by decide), (by decide)⟩) (h_c := ⟨(by decide), (by decide)⟩) (h_e := ⟨(by decide), (by decide)⟩)  (p_0 := by omega) (p_1 := by omega) (p_2 := by omega)) (fun o V_q hq => ?_)
              obtain ⟨G228, A229, nd2_230, ec2_231, rfl, rfl, hW232, hF233, hQ234, e235, e236, p237, p238, p239, p240, -⟩ := hq
              have hF242 := Fr_tr hF224 hF233 (Fr_sub (by decide)) (Fr_sub (by decide))
              have hP243 := Pf_tr hP225 hQ234 (by omega)
              have bnd2_230 : (0 : Int) ≤ nd2_230 ∧ nd2_230 ≤ 6999 := e235 ▸ hW232.1 31
              refine .inr ⟨_, rfl, ?_⟩
              refine jx_rt (v := some (.int (i32 (nd)))) rfl rfl rfl rfl rfl rfl ?_
              have z244 := tz_f (tk2_215)
              exact ⟨_, _, _, at2_214, fk, op0, nd2_230, tk2_215, ec2_231, rfl, rfl, hW232, hF242, hP243, by omega, ((hF233.1 10 rfl).trans (e218)), ((hF233.1 16 rfl).trans ((hF217.1 16 rfl).trans (e_fk))), ((hF233.1 15 rfl).trans ((hF217.1 15 rfl).trans (e_op0))), (e235), ((hF233.1 11 rfl).trans (e219)), e236, by omega, by omega, by omega, by omega, by omega, by omega, by first | exact Or.inr (Or.inr ((⟨by omega, by omega, by omega, (wE_num p239 (by omega) (by omega)), by omega, (NdM_w p240 (by omega) (by omega) (by omega)), by omega, by omega⟩)))⟩
          · have _q := h132
            exact absurd h132 (by omega)
        · have _q : True := trivial
          refine jx_if_ne (pc_q := 26) (tg := 35) rfl rfl rfl (by decide) (by decide) (fun h245 => ?_) (fun h245 => ?_)
          · have _q := h245
            exact absurd h245 (by omega)
          · have _q := h245
            refine jx_ld (pc_q := 27) (l_q := [(0, .ref 66)]) (st_q := [.ref 66]) rfl (jl_aloadn rfl) ?_
            refine jx_ar (pc_q := 29) (st_q := [.int (i32 (15)), .ref 66]) rfl rfl rfl rfl ?_
            refine jx_vr (pc_q := 32) (as := [.int (i32 (15))]) (st := []) rfl rfl rfl rfl ⟨rfl, rfl, Nat.le_of_ble_eq_true rfl⟩ rfl rfl (c_isKey (dd := d) (hd := by omega) (hW := hW) (k := 15) (tk := tk0) (e_tk := show G 11 = tk0 from (e_tk0)) (tn := G 13) (e_tn := show G 13 = G 13 from rfl)  (h_k := ⟨(by decide), (by decide)⟩)  ) (fun o V_q hq => ?_)
            obtain ⟨r246, rfl, rfl, b247, q248⟩ := hq
            refine .inr ⟨_, rfl, ?_⟩
            rcases q248 with ⟨rfl, a249, a250, a251⟩ | rfl
            · have _q : True := trivial
              refine jx_if_eq (pc_q := 35) (tg := 79) rfl rfl rfl (by decide) (by decide) (fun h252 => ?_) (fun h252 => ?_)
              · have _q := h252
                exact absurd h252 (by omega)
              · have _q := h252
                refine jx_ld (pc_q := 36) (l_q := [(0, .ref 66)]) (st_q := [.ref 66]) rfl (jl_aloadn rfl) ?_
                have z253 := tz_f (tk0)
                refine jr_get (pc_q := 39) (i := 11) (v := .int (i32 (tk0))) rfl rfl (by decide) (rFv_eq (by decide) (show G 11 = tk0 from (e_tk0))) rfl ?_
                refine jx_ar (pc_q := 40) (st_q := [.int (i32 (3)), .int (i32 (tk0))]) rfl rfl rfl rfl ?_
                refine jx_icmp_ne (pc_q := 43) (tg := 50) rfl rfl rfl (Int.le_trans (by decide : (-2147483648 : Int) ≤ 0) b_tk0.1) (Int.le_trans b_tk0.2 (by decide : (5 : Int) ≤ 2147483647)) (by decide) (by decide) (fun h254 => ?_) (fun h254 => ?_)
                · have _q := h254
                  refine jx_ld (pc_q := 51) (l_q := [(0, .ref 66)]) (st_q := [.ref 66]) rfl (jl_aloadn rfl) ?_
                  refine jx_ar (pc_q := 53) (st_q := [.int (i32 (14)), .ref 66]) rfl rfl rfl rfl ?_
                  refine jx_vr (pc_q := 56) (as := [.int (i32 (14))]) (st := []) rfl rfl rfl rfl ⟨rfl, rfl, Nat.le_of_ble_eq_true rfl⟩ rfl rfl (c_isKey (dd := d) (hd := by omega) (hW := hW) (k := 14) (tk := tk0) (e_tk := show G 11 = tk0 from (e_tk0)) (tn := G 13) (e_tn := show G 13 = G 13 from rfl)  (h_k := ⟨(by decide), (by decide)⟩)  ) (fun o V_q hq => ?_)
                  obtain ⟨r255, rfl, rfl, b256, q257⟩ := hq
                  refine .inr ⟨_, rfl, ?_⟩
                  rcases q257 with ⟨rfl, a258, a259, a260⟩ | rfl
                  · have _q : True := trivial
                    refine jx_if_eq (pc_q := 59) (tg := 63) rfl rfl rfl (by decide) (by decide) (fun h261 => ?_) (fun h261 => ?_)
                    · have _q := h261
                      exact absurd h261 (by omega)
                    · have _q := h261
                      refine jx_ar (pc_q := 60) (st_q := [.int (i32 (1))]) rfl rfl rfl rfl ?_
                      refine jx_go (tg := 64) rfl rfl ?_
                      refine jx_ld (pc_q := 65) (l_q := jSto1 [(0, .ref 66)] 1 (.int (i32 (1)))) (st_q := []) rfl rfl ?_
                      obtain ⟨L262, eL262⟩ : ∃ q, q = jSto1 [(0, .ref 66)] 1 (.int (i32 (1))) := ⟨_, rfl⟩
                      rw [← eL262]
                      have gL262_0 : jGet L262 0 = some (.ref 66) := eL262 ▸ jg_ne (by decide) (rfl : jGet [(0, .ref 66)] 0 = some (.ref 66)) rfl
                      have gL262_1 : jGet L262 1 = some (.int (i32 (1))) := eL262 ▸ jg_eq
                      refine jx_ld (pc_q := 66) (l_q := L262) (st_q := [.ref 66]) rfl (jl_aloadn gL262_0) ?_
                      refine jx_vr (pc_q := 69) (as := []) (st := []) rfl rfl rfl rfl ⟨rfl, rfl, Nat.le_of_ble_eq_true rfl⟩ rfl rfl (c_next (dd := d) (hd := by omega) (hW := hW)  (ln := ln) (e_ln := show G 9 = ln from (e_ln)) (le := le) (e_le := show A 4 (ln).toNat = le from (e_le)) (at0 := at0) (e_at0 := show G 10 = at0 from (e_at0))    (p_0 := by omega)) (fun o V_q hq => ?_)
                      obtain ⟨G263, A264, at2_265, tk2_266, rfl, rfl, hW267, hF268, e269, e270, p271, p272, p273, -⟩ := hq
                      have hF275 := Fr_tr hF0 hF268 (Fr_sub (by decide)) (Fr_sub (by decide))
                      have hP276 := Pf_f hP0 hF268 (by decide)
                      have ec277 : ecn A264 (G263 31) = ec := (ecn_f (hF268.2 15 rfl) (hF268.1 31 rfl)).trans e_ec
                      have bat2_265 : (0 : Int) ≤ at2_265 ∧ at2_265 ≤ 3002 := e269 ▸ hW267.1 10
                      have ztk2_266 := tz_b tk2_266
                      have btk2_266 : (0 : Int) ≤ tk2_266 ∧ tk2_266 ≤ 5 := e270 ▸ hW267.1 11
                      refine .inl ⟨rfl, ?_⟩
                      have pz278 : at0 + tz tk2_266 ≤ at2_265 := by omega
                      refine jx_ld (pc_q := 70) (l_q := L262) (st_q := [.ref 66]) rfl (jl_aloadn gL262_0) ?_
                      refine jx_ar (pc_q := 71) (st_q := [.int (i32 (1)), .ref 66]) rfl rfl rfl rfl ?_
                      refine jx_ld (pc_q := 72) (l_q := L262) (st_q := [.int (i32 (1)), .int (i32 (1)), .ref 66]) rfl (jl_iloadn gL262_1) ?_
                      refine jx_ar (pc_q := 73) (st_q := [.int (i32 (0)), .int (i32 (1)), .int (i32 (1)), .ref 66]) rfl rfl rfl rfl ?_
                      refine jx_ar (pc_q := 74) (st_q := [.int (i32 (0)), .int (i32 (0)), .int (i32 (1)), .int (i32 (1)), .ref 66]) rfl rfl rfl rfl ?_
                      refine jx_ar (pc_q := 75) (st_q := [.int (i32 (0)), .int (i32 (0)), .int (i32 (0)), .int (i32 (1)), .int (i32 (1)), .ref 66]) rfl rfl rfl rfl ?_
                      refine jx_vr (pc_q := 78) (as := [.int (i32 (1)), .int (i32 (1)), .int (i32 (0)), .int (i32 (0)), .int (i32 (0))]) (st := []) rfl rfl rfl rfl ⟨rfl, rfl, Nat.le_of_ble_eq_true rfl⟩ rfl rfl (c_node_o (dd := d) (hd := by omega) (hW := hW267) (kind := 1) (a := 1) (b := 0) (c := 0) (e := 0) (nd := nd) (e_nd := show G263 31 = nd from ((hF268.1 31 rfl).trans (e_nd))) (ec := ec) (e_ec := show ecn A264 (G263 31) = ec from ec277) (sy := sy) (e_sy := show G263 19 = sy from ((hF268.1 19 rfl).trans (e_sy)))  (h_kind := ⟨(by decide), (by decide)⟩) (h_a := ⟨(by decide), (by decide)⟩) (h_b := ⟨(by decide), (by decide)⟩) (h_c := ⟨(by decide), (by decide)⟩) (h_e := ⟨(by decide), (by decide)⟩)  (p_0 := by omega) (p_1 := by omega) (p_2 := by omega)) (fun o V_q hq => ?_)
                      obtain ⟨G279, A280, nd2_281, ec2_282, rfl, rfl, hW283, hF284, hQ285, e286, e287, p288, p289, p290, p291, -⟩ := hq
                      have hF293 := Fr_tr hF275 hF284 (Fr_sub (by decide)) (Fr_sub (by decide))
                      have hP294 := Pf_tr hP276 hQ285 (by omega)
                      have bnd2_281 : (0 : Int) ≤ nd2_281 ∧ nd2_281 ≤ 6999 := e286 ▸ hW283.1 31
                      refine .inr ⟨_, rfl, ?_⟩
                      refine jx_rt (v := some (.int (i32 (nd)))) rfl rfl rfl rfl rfl rfl ?_
                      have z295 := tz_f (tk2_266)
                      exact ⟨_, _, _, at2_265, fk, op0, nd2_281, tk2_266, ec2_282, rfl, rfl, hW283, hF293, hP294, by omega, ((hF284.1 10 rfl).trans (e269)), ((hF284.1 16 rfl).trans ((hF268.1 16 rfl).trans (e_fk))), ((hF284.1 15 rfl).trans ((hF268.1 15 rfl).trans (e_op0))), (e286), ((hF284.1 11 rfl).trans (e270)), e287, by omega, by omega, by omega, by omega, by omega, by omega, by first | exact Or.inr (Or.inr ((⟨by omega, by omega, by omega, (wE_num p290 (by omega) (by omega)), by omega, (NdM_w p291 (by omega) (by omega) (by omega)), by omega, by omega⟩)))⟩
                  · have _q : True := trivial
                    refine jx_if_eq (pc_q := 59) (tg := 63) rfl rfl rfl (by decide) (by decide) (fun h296 => ?_) (fun h296 => ?_)
                    · have _q := h296
                      refine jx_ar (pc_q := 64) (st_q := [.int (i32 (0))]) rfl rfl rfl rfl ?_
                      refine jx_ld (pc_q := 65) (l_q := jSto1 [(0, .ref 66)] 1 (.int (i32 (0)))) (st_q := []) rfl rfl ?_
                      obtain ⟨L297, eL297⟩ : ∃ q, q = jSto1 [(0, .ref 66)] 1 (.int (i32 (0))) := ⟨_, rfl⟩
                      rw [← eL297]
                      have gL297_0 : jGet L297 0 = some (.ref 66) := eL297 ▸ jg_ne (by decide) (rfl : jGet [(0, .ref 66)] 0 = some (.ref 66)) rfl
                      have gL297_1 : jGet L297 1 = some (.int (i32 (0))) := eL297 ▸ jg_eq
                      refine jx_ld (pc_q := 66) (l_q := L297) (st_q := [.ref 66]) rfl (jl_aloadn gL297_0) ?_
                      refine jx_vr (pc_q := 69) (as := []) (st := []) rfl rfl rfl rfl ⟨rfl, rfl, Nat.le_of_ble_eq_true rfl⟩ rfl rfl (c_next (dd := d) (hd := by omega) (hW := hW)  (ln := ln) (e_ln := show G 9 = ln from (e_ln)) (le := le) (e_le := show A 4 (ln).toNat = le from (e_le)) (at0 := at0) (e_at0 := show G 10 = at0 from (e_at0))    (p_0 := by omega)) (fun o V_q hq => ?_)
                      obtain ⟨G298, A299, at2_300, tk2_301, rfl, rfl, hW302, hF303, e304, e305, p306, p307, p308, -⟩ := hq
                      have hF310 := Fr_tr hF0 hF303 (Fr_sub (by decide)) (Fr_sub (by decide))
                      have hP311 := Pf_f hP0 hF303 (by decide)
                      have ec312 : ecn A299 (G298 31) = ec := (ecn_f (hF303.2 15 rfl) (hF303.1 31 rfl)).trans e_ec
                      have bat2_300 : (0 : Int) ≤ at2_300 ∧ at2_300 ≤ 3002 := e304 ▸ hW302.1 10
                      have ztk2_301 := tz_b tk2_301
                      have btk2_301 : (0 : Int) ≤ tk2_301 ∧ tk2_301 ≤ 5 := e305 ▸ hW302.1 11
                      refine .inl ⟨rfl, ?_⟩
                      have pz313 : at0 + tz tk2_301 ≤ at2_300 := by omega
                      refine jx_ld (pc_q := 70) (l_q := L297) (st_q := [.ref 66]) rfl (jl_aloadn gL297_0) ?_
                      refine jx_ar (pc_q := 71) (st_q := [.int (i32 (1)), .ref 66]) rfl rfl rfl rfl ?_
                      refine jx_ld (pc_q := 72) (l_q := L297) (st_q := [.int (i32 (0)), .int (i32 (1)), .ref 66]) rfl (jl_iloadn gL297_1) ?_
                      refine jx_ar (pc_q := 73) (st_q := [.int (i32 (0)), .int (i32 (0)), .int (i32 (1)), .ref 66]) rfl rfl rfl rfl ?_
                      refine jx_ar (pc_q := 74) (st_q := [.int (i32 (0)), .int (i32 (0)), .int (i32 (0)), .int (i32 (1)), .ref 66]) rfl rfl rfl rfl ?_
                      refine jx_ar (pc_q := 75) (st_q := [.int (i32 (0)), .int (i32 (0)), .int (i32 (0)), .int (i32 (0)), .int (i32 (1)), .ref 66]) rfl rfl rfl rfl ?_
                      refine jx_vr (pc_q := 78) (as := [.int (i32 (1)), .int (i32 (0)), .int (i32 (0)), .int (i32 (0)), .int (i32 (0))]) (st := []) rfl rfl rfl rfl ⟨rfl, rfl, Nat.le_of_ble_eq_true rfl⟩ rfl rfl (c_node_o (dd := d) (hd := by omega) (hW := hW302) (kind := 1) (a := 0) (b := 0) (c := 0) (e := 0) (nd := nd) (e_nd := show G298 31 = nd from ((hF303.1 31 rfl).trans (e_nd))) (ec := ec) (e_ec := show ecn A299 (G298 31) = ec from ec312) (sy := sy) (e_sy := show G298 19 = sy from ((hF303.1 19 rfl).trans (e_sy)))  (h_kind := ⟨(by decide), (by decide)⟩) (h_a := ⟨(by decide), (by decide)⟩) (h_b := ⟨(by decide), (by decide)⟩) (h_c := ⟨(by decide), (by decide)⟩) (h_e := ⟨(by decide), (by decide)⟩)  (p_0 := by omega) (p_1 := by omega) (p_2 := by omega)) (fun o V_q hq => ?_)
                      obtain ⟨G314, A315, nd2_316, ec2_317, rfl, rfl, hW318, hF319, hQ320, e321, e322, p323, p324, p325, p326, -⟩ := hq
                      have hF328 := Fr_tr hF310 hF319 (Fr_sub (by decide)) (Fr_sub (by decide))
                      have hP329 := Pf_tr hP311 hQ320 (by omega)
                      have bnd2_316 : (0 : Int) ≤ nd2_316 ∧ nd2_316 ≤ 6999 := e321 ▸ hW318.1 31
                      refine .inr ⟨_, rfl, ?_⟩
                      refine jx_rt (v := some (.int (i32 (nd)))) rfl rfl rfl rfl rfl rfl ?_
                      have z330 := tz_f (tk2_301)
                      exact ⟨_, _, _, at2_300, fk, op0, nd2_316, tk2_301, ec2_317, rfl, rfl, hW318, hF328, hP329, by omega, ((hF319.1 10 rfl).trans (e304)), ((hF319.1 16 rfl).trans ((hF303.1 16 rfl).trans (e_fk))), ((hF319.1 15 rfl).trans ((hF303.1 15 rfl).trans (e_op0))), (e321), ((hF319.1 11 rfl).trans (e305)), e322, by omega, by omega, by omega, by omega, by omega, by omega, by first | exact Or.inr (Or.inr ((⟨by omega, by omega, by omega, (wE_num p325 (by omega) (by omega)), by omega, (NdM_w p326 (by omega) (by omega) (by omega)), by omega, by omega⟩)))⟩
                    · have _q := h296
                      exact absurd h296 (by omega)
                · have _q := h254
                  refine jx_ld (pc_q := 44) (l_q := [(0, .ref 66)]) (st_q := [.ref 66]) rfl (jl_aloadn rfl) ?_
                  refine jr_get (pc_q := 47) (i := 13) (v := .int (i32 (G 13))) rfl rfl (by decide) rfl rfl ?_
                  refine jx_go (tg := 64) rfl rfl ?_
                  refine jx_ld (pc_q := 65) (l_q := jSto1 [(0, .ref 66)] 1 (.int (i32 (G 13)))) (st_q := []) rfl rfl ?_
                  obtain ⟨L331, eL331⟩ : ∃ q, q = jSto1 [(0, .ref 66)] 1 (.int (i32 (G 13))) := ⟨_, rfl⟩
                  rw [← eL331]
                  have gL331_0 : jGet L331 0 = some (.ref 66) := eL331 ▸ jg_ne (by decide) (rfl : jGet [(0, .ref 66)] 0 = some (.ref 66)) rfl
                  have gL331_1 : jGet L331 1 = some (.int (i32 (G 13))) := eL331 ▸ jg_eq
                  refine jx_ld (pc_q := 66) (l_q := L331) (st_q := [.ref 66]) rfl (jl_aloadn gL331_0) ?_
                  refine jx_vr (pc_q := 69) (as := []) (st := []) rfl rfl rfl rfl ⟨rfl, rfl, Nat.le_of_ble_eq_true rfl⟩ rfl rfl (c_next (dd := d) (hd := by omega) (hW := hW)  (ln := ln) (e_ln := show G 9 = ln from (e_ln)) (le := le) (e_le := show A 4 (ln).toNat = le from (e_le)) (at0 := at0) (e_at0 := show G 10 = at0 from (e_at0))    (p_0 := by omega)) (fun o V_q hq => ?_)
                  obtain ⟨G332, A333, at2_334, tk2_335, rfl, rfl, hW336, hF337, e338, e339, p340, p341, p342, -⟩ := hq
                  have hF344 := Fr_tr hF0 hF337 (Fr_sub (by decide)) (Fr_sub (by decide))
                  have hP345 := Pf_f hP0 hF337 (by decide)
                  have ec346 : ecn A333 (G332 31) = ec := (ecn_f (hF337.2 15 rfl) (hF337.1 31 rfl)).trans e_ec
                  have bat2_334 : (0 : Int) ≤ at2_334 ∧ at2_334 ≤ 3002 := e338 ▸ hW336.1 10
                  have ztk2_335 := tz_b tk2_335
                  have btk2_335 : (0 : Int) ≤ tk2_335 ∧ tk2_335 ≤ 5 := e339 ▸ hW336.1 11
                  refine .inl ⟨rfl, ?_⟩
                  have pz347 : at0 + tz tk2_335 ≤ at2_334 := by omega
                  refine jx_ld (pc_q := 70) (l_q := L331) (st_q := [.ref 66]) rfl (jl_aloadn gL331_0) ?_
                  refine jx_ar (pc_q := 71) (st_q := [.int (i32 (1)), .ref 66]) rfl rfl rfl rfl ?_
                  refine jx_ld (pc_q := 72) (l_q := L331) (st_q := [.int (i32 (G 13)), .int (i32 (1)), .ref 66]) rfl (jl_iloadn gL331_1) ?_
                  refine jx_ar (pc_q := 73) (st_q := [.int (i32 (0)), .int (i32 (G 13)), .int (i32 (1)), .ref 66]) rfl rfl rfl rfl ?_
                  refine jx_ar (pc_q := 74) (st_q := [.int (i32 (0)), .int (i32 (0)), .int (i32 (G 13)), .int (i32 (1)), .ref 66]) rfl rfl rfl rfl ?_
                  refine jx_ar (pc_q := 75) (st_q := [.int (i32 (0)), .int (i32 (0)), .int (i32 (0)), .int (i32 (G 13)), .int (i32 (1)), .ref 66]) rfl rfl rfl rfl ?_
                  refine jx_vr (pc_q := 78) (as := [.int (i32 (1)), .int (i32 (G 13)), .int (i32 (0)), .int (i32 (0)), .int (i32 (0))]) (st := []) rfl rfl rfl rfl ⟨rfl, rfl, Nat.le_of_ble_eq_true rfl⟩ rfl rfl (c_node_o (dd := d) (hd := by omega) (hW := hW336) (kind := 1) (a := G 13) (b := 0) (c := 0) (e := 0) (nd := nd) (e_nd := show G332 31 = nd from ((hF337.1 31 rfl).trans (e_nd))) (ec := ec) (e_ec := show ecn A333 (G332 31) = ec from ec346) (sy := sy) (e_sy := show G332 19 = sy from ((hF337.1 19 rfl).trans (e_sy)))  (h_kind := ⟨(by decide), (by decide)⟩) (h_a := ⟨(Int.le_trans (by decide : (-2147483648 : Int) ≤ -2147483648) b125.1), (Int.le_trans b125.2 (by decide : (2147483647 : Int) ≤ 2147483647))⟩) (h_b := ⟨(by decide), (by decide)⟩) (h_c := ⟨(by decide), (by decide)⟩) (h_e := ⟨(by decide), (by decide)⟩)  (p_0 := by omega) (p_1 := by omega) (p_2 := by omega)) (fun o V_q hq => ?_)
                  obtain ⟨G348, A349, nd2_350, ec2_351, rfl, rfl, hW352, hF353, hQ354, e355, e356, p357, p358, p359, p360, -⟩ := hq
                  have hF362 := Fr_tr hF344 hF353 (Fr_sub (by decide)) (Fr_sub (by decide))
                  have hP363 := Pf_tr hP345 hQ354 (by omega)
                  have bnd2_350 : (0 : Int) ≤ nd2_350 ∧ nd2_350 ≤ 6999 := e355 ▸ hW352.1 31
                  refine .inr ⟨_, rfl, ?_⟩
                  refine jx_rt (v := some (.int (i32 (nd)))) rfl rfl rfl rfl rfl rfl ?_
                  have z364 := tz_f (tk2_335)
                  exact ⟨_, _, _, at2_334, fk, op0, nd2_350, tk2_335, ec2_351, rfl, rfl, hW352, hF362, hP363, by omega, ((hF353.1 10 rfl).trans (e338)), ((hF353.1 16 rfl).trans ((hF337.1 16 rfl).trans (e_fk))), ((hF353.1 15 rfl).trans ((hF337.1 15 rfl).trans (e_op0))), (e355), ((hF353.1 11 rfl).trans (e339)), e356, by omega, by omega, by omega, by omega, by omega, by omega, by first | exact Or.inr (Or.inr ((⟨by omega, by omega, by omega, (wE_num p359 (by omega) (by omega)), by omega, (NdM_w p360 (by omega) (by omega) (by omega)), by omega, by omega⟩)))⟩
            · have _q : True := trivial
              refine jx_if_eq (pc_q := 35) (tg := 79) rfl rfl rfl (by decide) (by decide) (fun h365 => ?_) (fun h365 => ?_)
              · have _q := h365
                refine jx_ld (pc_q := 80) (l_q := [(0, .ref 66)]) (st_q := [.ref 66]) rfl (jl_aloadn rfl) ?_
                refine jx_ar (pc_q := 82) (st_q := [.int (i32 (40)), .ref 66]) rfl rfl rfl rfl ?_
                refine jx_vr (pc_q := 85) (as := [.int (i32 (40))]) (st := []) rfl rfl rfl rfl ⟨rfl, rfl, Nat.le_of_ble_eq_true rfl⟩ rfl rfl (c_is (dd := d) (hd := by omega) (hW := hW) (k := 40) (tk := tk0) (e_tk := show G 11 = tk0 from (e_tk0)) (tn := G 13) (e_tn := show G 13 = G 13 from rfl)  (h_k := ⟨(by decide), (by decide)⟩)  ) (fun o V_q hq => ?_)
                obtain ⟨r366, rfl, rfl, b367, q368⟩ := hq
                refine .inr ⟨_, rfl, ?_⟩
                rcases q368 with ⟨rfl, a369, a370, a371⟩ | rfl
                · have _q : True := trivial
                  refine jx_if_eq (pc_q := 88) (tg := 133) rfl rfl rfl (by decide) (by decide) (fun h372 => ?_) (fun h372 => ?_)
                  · have _q := h372
                    exact absurd h372 (by omega)
                  · have _q := h372
                    refine jx_ld (pc_q := 89) (l_q := [(0, .ref 66)]) (st_q := [.ref 66]) rfl (jl_aloadn rfl) ?_
                    refine jx_vr (pc_q := 92) (as := []) (st := []) rfl rfl rfl rfl ⟨rfl, rfl, Nat.le_of_ble_eq_true rfl⟩ rfl rfl (c_open (dd := d) (hd := by omega) (hW := hW)  (fk := fk) (e_fk := show G 16 = fk from (e_fk)) (op0 := op0) (e_op0 := show G 15 = op0 from (e_op0))    (p_0 := by omega)) (fun o V_q hq => ?_)
                    obtain ⟨G373, A374, fk2_375, op2_376, rfl, rfl, hW377, hF378, e379, e380, p381, q382⟩ := hq
                    have hF383 := Fr_tr hF0 hF378 (Fr_sub (by decide)) (Fr_sub (by decide))
                    have hP384 := Pf_f hP0 hF378 (by decide)
                    have ec385 : ecn A374 (G373 31) = ec := (ecn_f (hF378.2 15 rfl) (hF378.1 31 rfl)).trans e_ec
                    have bfk2_375 : (0 : Int) ≤ fk2_375 ∧ fk2_375 ≤ 6 := e379 ▸ hW377.1 16
                    have bop2_376 : (-2147483648 : Int) ≤ op2_376 ∧ op2_376 ≤ 2147483647 := e380 ▸ hW377.1 15
                    refine .inl ⟨rfl, ?_⟩
                    rcases q382 with a386 | ⟨a387, a388, a389⟩
                    · have _q : True := trivial
                      refine jx_ld (pc_q := 93) (l_q := [(0, .ref 66)]) (st_q := [.ref 66]) rfl (jl_aloadn rfl) ?_
                      refine jx_ar (pc_q := 94) (st_q := [.int (i32 (1)), .ref 66]) rfl rfl rfl rfl ?_
                      refine jx_vr (pc_q := 97) (as := [.int (i32 (1))]) (st := []) rfl rfl rfl rfl ⟨rfl, rfl, Nat.le_of_ble_eq_true rfl⟩ rfl rfl (c_need (dd := d) (hd := by omega) (hW := hW377) (g := 1) (ln := ln) (e_ln := show G373 9 = ln from ((hF378.1 9 rfl).trans (e_ln))) (le := le) (e_le := show A374 4 (ln).toNat = le from (congrFun (hF378.2 4 rfl) _).trans (e_le)) (at0 := at0) (e_at0 := show G373 10 = at0 from ((hF378.1 10 rfl).trans (e_at0))) (fk := fk2_375) (e_fk := show G373 16 = fk2_375 from (e379)) (tk0 := tk0) (e_tk0 := show G373 11 = tk0 from ((hF378.1 11 rfl).trans (e_tk0)))  (h_g := ⟨(by decide), (by decide)⟩)  (p_0 := by omega)) (fun o V_q hq => ?_)
                      obtain ⟨G390, A391, at2_392, tk2_393, fk2_394, rfl, rfl, hW395, hF396, e397, e398, e399, p400, p401, q402⟩ := hq
                      have hF403 := Fr_tr hF383 hF396 (Fr_sub (by decide)) (Fr_sub (by decide))
                      have hP404 := Pf_f hP384 hF396 (by decide)
                      have ec405 : ecn A391 (G390 31) = ec := (ecn_f (hF396.2 15 rfl) (hF396.1 31 rfl)).trans ec385
                      have bat2_392 : (0 : Int) ≤ at2_392 ∧ at2_392 ≤ 3002 := e397 ▸ hW395.1 10
                      have ztk2_393 := tz_b tk2_393
                      have btk2_393 : (0 : Int) ≤ tk2_393 ∧ tk2_393 ≤ 5 := e398 ▸ hW395.1 11
                      have bfk2_394 : (0 : Int) ≤ fk2_394 ∧ fk2_394 ≤ 6 := e399 ▸ hW395.1 16
                      refine .inl ⟨rfl, ?_⟩
                      rcases q402 with ⟨a406, a407, a408, a409⟩ | ⟨a410, a411, a412, a413⟩
                      · have _q : True := trivial
                        refine jx_ld (pc_q := 98) (l_q := [(0, .ref 66)]) (st_q := [.ref 66]) rfl (jl_aloadn rfl) ?_
                        refine jx_vr (pc_q := 101) (as := []) (st := []) rfl rfl rfl rfl ⟨rfl, rfl, Nat.le_of_ble_eq_true rfl⟩ rfl rfl (hE (dd := d) (hd := by omega) (hW := hW395)  (ln := ln) (e_ln := show G390 9 = ln from ((hF396.1 9 rfl).trans ((hF378.1 9 rfl).trans (e_ln)))) (le := le) (e_le := show A391 4 (ln).toNat = le from (congrFun ((hF396.2 4 rfl).trans (hF378.2 4 rfl)) _).trans (e_le)) (at0 := at2_392) (e_at0 := show G390 10 = at2_392 from (e397)) (fk := fk2_394) (e_fk := show G390 16 = fk2_394 from (e399)) (op0 := op2_376) (e_op0 := show G390 15 = op2_376 from ((hF396.1 15 rfl).trans (e380))) (nd := nd) (e_nd := show G390 31 = nd from ((hF396.1 31 rfl).trans ((hF378.1 31 rfl).trans (e_nd)))) (tk0 := tk2_393) (e_tk0 := show G390 11 = tk2_393 from (e398)) (ec := ec) (e_ec := show ecn A391 (G390 31) = ec from ec405) (sy := sy) (e_sy := show G390 19 = sy from ((hF396.1 19 rfl).trans ((hF378.1 19 rfl).trans (e_sy)))) (i_SV := (SV_ext (((hF396.1 29 rfl).trans (hF378.1 29 rfl))) (((hF396.2 14 rfl).trans (hF378.2 14 rfl))) i_SV))   (p_0 := by omega) (p_1 := by omega) (p_2 := by omega) (p_3 := by omega) (p_4 := by omega) (p_5 := by omega)) (fun o V_q hq => ?_)
                        obtain ⟨G414, A415, r416, at2_417, fk2_418, op2_419, nd2_420, tk2_421, ec2_422, rfl, rfl, hW423, hF424, hQ425, b426, e427, e428, e429, e430, e431, e432, p433, p434, p435, p436, p437, p438, q439⟩ := hq
                        have hF440 := Fr_tr hF403 hF424 (Fr_sub (by decide)) (Fr_sub (by decide))
                        have hP441 := Pf_tr hP404 hQ425 (by omega)
                        have bat2_417 : (0 : Int) ≤ at2_417 ∧ at2_417 ≤ 3002 := e427 ▸ hW423.1 10
                        have bfk2_418 : (0 : Int) ≤ fk2_418 ∧ fk2_418 ≤ 6 := e428 ▸ hW423.1 16
                        have bop2_419 : (-2147483648 : Int) ≤ op2_419 ∧ op2_419 ≤ 2147483647 := e429 ▸ hW423.1 15
                        have bnd2_420 : (0 : Int) ≤ nd2_420 ∧ nd2_420 ≤ 6999 := e430 ▸ hW423.1 31
                        have ztk2_421 := tz_b tk2_421
                        have btk2_421 : (0 : Int) ≤ tk2_421 ∧ tk2_421 ≤ 5 := e431 ▸ hW423.1 11
                        refine .inr ⟨_, rfl, ?_⟩
                        rcases q439 with ⟨a442, a443, a444, a445, a446, a447⟩ | ⟨a448, a449, a450⟩ | ⟨a451, a452, a453, a454, a455, a456, a457, a458⟩
                        · have _q : True := trivial
                          refine jx_ld (pc_q := 102) (l_q := jSto1 [(0, .ref 66)] 1 (.int (i32 (r416)))) (st_q := []) rfl rfl ?_
                          obtain ⟨L459, eL459⟩ : ∃ q, q = jSto1 [(0, .ref 66)] 1 (.int (i32 (r416))) := ⟨_, rfl⟩
                          rw [← eL459]
                          have gL459_0 : jGet L459 0 = some (.ref 66) := eL459 ▸ jg_ne (by decide) (rfl : jGet [(0, .ref 66)] 0 = some (.ref 66)) rfl
                          have gL459_1 : jGet L459 1 = some (.int (i32 (r416))) := eL459 ▸ jg_eq
                          refine jx_ld (pc_q := 103) (l_q := L459) (st_q := [.ref 66]) rfl (jl_aloadn gL459_0) ?_
                          refine jx_ld (pc_q := 104) (l_q := L459) (st_q := [.ref 66, .ref 66]) rfl (jl_aloadn gL459_0) ?_
                          refine jx_ar (pc_q := 106) (st_q := [.int (i32 (41)), .ref 66, .ref 66]) rfl rfl rfl rfl ?_
                          have b460 : (-2147483648 : Int) ≤ G414 13 ∧ G414 13 ≤ 2147483647 := hW423.1 13
                          refine jx_vr (pc_q := 109) (as := [.int (i32 (41))]) (st := [.ref 66]) rfl rfl rfl rfl ⟨rfl, rfl, Nat.le_of_ble_eq_true rfl⟩ rfl rfl (c_is (dd := d) (hd := by omega) (hW := hW423) (k := 41) (tk := tk2_421) (e_tk := show G414 11 = tk2_421 from (e431)) (tn := G414 13) (e_tn := show G414 13 = G414 13 from rfl)  (h_k := ⟨(by decide), (by decide)⟩)  ) (fun o V_q hq => ?_)
                          obtain ⟨r461, rfl, rfl, b462, q463⟩ := hq
                          refine .inr ⟨_, rfl, ?_⟩
                          rcases q463 with ⟨rfl, a464, a465, a466⟩ | rfl
                          · have _q : True := trivial
                            refine jx_vr (pc_q := 112) (as := [.int (i32 (1))]) (st := []) rfl rfl rfl rfl ⟨rfl, rfl, Nat.le_of_ble_eq_true rfl⟩ rfl rfl (c_need (dd := d) (hd := by omega) (hW := hW423) (g := 1) (ln := ln) (e_ln := show G414 9 = ln from ((hF424.1 9 rfl).trans ((hF396.1 9 rfl).trans ((hF378.1 9 rfl).trans (e_ln))))) (le := le) (e_le := show A415 4 (ln).toNat = le from (congrFun ((hF424.2 4 rfl).trans ((hF396.2 4 rfl).trans (hF378.2 4 rfl))) _).trans (e_le)) (at0 := at2_417) (e_at0 := show G414 10 = at2_417 from (e427)) (fk := fk2_418) (e_fk := show G414 16 = fk2_418 from (e428)) (tk0 := tk2_421) (e_tk0 := show G414 11 = tk2_421 from (e431))  (h_g := ⟨(by decide), (by decide)⟩)  (p_0 := by omega)) (fun o V_q hq => ?_)
                            obtain ⟨G467, A468, at2_469, tk2_470, fk2_471, rfl, rfl, hW472, hF473, e474, e475, e476, p477, p478, q479⟩ := hq
                            have hF480 := Fr_tr hF440 hF473 (Fr_sub (by decide)) (Fr_sub (by decide))
                            have hP481 := Pf_f hP441 hF473 (by decide)
                            have ec482 : ecn A468 (G467 31) = ec2_422 := (ecn_f (hF473.2 15 rfl) (hF473.1 31 rfl)).trans e432
                            have bat2_469 : (0 : Int) ≤ at2_469 ∧ at2_469 ≤ 3002 := e474 ▸ hW472.1 10
                            have ztk2_470 := tz_b tk2_470
                            have btk2_470 : (0 : Int) ≤ tk2_470 ∧ tk2_470 ≤ 5 := e475 ▸ hW472.1 11
                            have bfk2_471 : (0 : Int) ≤ fk2_471 ∧ fk2_471 ≤ 6 := e476 ▸ hW472.1 16
                            refine .inl ⟨rfl, ?_⟩
                            rcases q479 with ⟨a483, a484, a485, a486⟩ | ⟨a487, a488, a489, a490⟩
                            · have _q : True := trivial
                              refine jx_ld (pc_q := 113) (l_q := L459) (st_q := [.ref 66]) rfl (jl_aloadn gL459_0) ?_
                              refine jx_ar (pc_q := 114) (st_q := [.ref 66, .ref 66]) rfl rfl rfl rfl ?_
                              refine jr_get (pc_q := 117) (i := 15) (v := .int (i32 (op2_419))) rfl rfl (by decide) (rFv_eq (by decide) (show G467 15 = op2_419 from ((hF473.1 15 rfl).trans (e429)))) rfl ?_
                              refine jx_ar (pc_q := 118) (st_q := [.int (i32 (1)), .int (i32 (op2_419)), .ref 66]) rfl rfl rfl rfl ?_
                              refine jx_sub (pc_q := 119) rfl rfl ?_
                              refine jr_put (pc_q := 122) (i := 15) (z := (op2_419 - 1)) rfl rfl (by decide) rfl rfl rfl rfl rfl rfl ?_
                              have hW491 : Wk (uG G467 15 ((op2_419 - 1))) A468 := Wk_g hW472 (show (-2147483648 : Int) ≤ (op2_419 - 1) by omega) (show (op2_419 - 1) ≤ (2147483647 : Int) by omega)
                              have hF492 := Fr_g (z := (op2_419 - 1)) (i := 15) hF480 (by decide)
                              have ec493 : ecn A468 ((uG G467 15 ((op2_419 - 1))) 31) = ec2_422 := ec482
                              refine jx_ld (pc_q := 123) (l_q := L459) (st_q := [.ref 66]) rfl (jl_aloadn gL459_0) ?_
                              refine jx_ar (pc_q := 125) (st_q := [.int (i32 (7)), .ref 66]) rfl rfl rfl rfl ?_
                              refine jx_ld (pc_q := 126) (l_q := L459) (st_q := [.int (i32 (r416)), .int (i32 (7)), .ref 66]) rfl (jl_iloadn gL459_1) ?_
                              refine jx_ar (pc_q := 127) (st_q := [.int (i32 (0)), .int (i32 (r416)), .int (i32 (7)), .ref 66]) rfl rfl rfl rfl ?_
                              refine jx_ar (pc_q := 128) (st_q := [.int (i32 (0)), .int (i32 (0)), .int (i32 (r416)), .int (i32 (7)), .ref 66]) rfl rfl rfl rfl ?_
                              refine jx_ar (pc_q := 129) (st_q := [.int (i32 (0)), .int (i32 (0)), .int (i32 (0)), .int (i32 (r416)), .int (i32 (7)), .ref 66]) rfl rfl rfl rfl ?_
                              refine jx_vr (pc_q := 132) (as := [.int (i32 (7)), .int (i32 (r416)), .int (i32 (0)), .int (i32 (0)), .int (i32 (0))]) (st := []) rfl rfl rfl rfl ⟨rfl, rfl, Nat.le_of_ble_eq_true rfl⟩ rfl rfl (c_node_o (dd := d) (hd := by omega) (hW := hW491) (kind := 7) (a := r416) (b := 0) (c := 0) (e := 0) (nd := nd2_420) (e_nd := show (uG G467 15 ((op2_419 - 1))) 31 = nd2_420 from ((hF473.1 31 rfl).trans (e430))) (ec := ec2_422) (e_ec := show ecn A468 ((uG G467 15 ((op2_419 - 1))) 31) = ec2_422 from ec493) (sy := sy) (e_sy := show (uG G467 15 ((op2_419 - 1))) 19 = sy from ((hF473.1 19 rfl).trans ((hF424.1 19 rfl).trans ((hF396.1 19 rfl).trans ((hF378.1 19 rfl).trans (e_sy))))))  (h_kind := ⟨(by decide), (by decide)⟩) (h_a := ⟨(Int.le_trans (by decide : (-2147483648 : Int) ≤ -2147483648) b426.1), (Int.le_trans b426.2 (by decide : (2147483647 : Int) ≤ 2147483647))⟩) (h_b := ⟨(by decide), (by decide)⟩) (h_c := ⟨(by decide), (by decide)⟩) (h_e := ⟨(by decide), (by decide)⟩)  (p_0 := by omega) (p_1 := by omega) (p_2 := by omega)) (fun o V_q hq => ?_)
                              obtain ⟨G494, A495, nd2_496, ec2_497, rfl, rfl, hW498, hF499, hQ500, e501, e502, p503, p504, p505, p506, -⟩ := hq
                              have hF508 := Fr_tr hF492 hF499 (Fr_sub (by decide)) (Fr_sub (by decide))
                              have hP509 := Pf_tr hP481 hQ500 (by omega)
                              have bnd2_496 : (0 : Int) ≤ nd2_496 ∧ nd2_496 ≤ 6999 := e501 ▸ hW498.1 31
                              refine .inr ⟨_, rfl, ?_⟩
                              refine jx_rt (v := some (.int (i32 (nd2_420)))) rfl rfl rfl rfl rfl rfl ?_
                              have z510 := tz_f (tk2_470)
                              exact ⟨_, _, _, at2_469, fk2_471, (op2_419 - 1), nd2_496, tk2_470, ec2_497, rfl, rfl, hW498, hF508, hP509, by omega, ((hF499.1 10 rfl).trans (e474)), ((hF499.1 16 rfl).trans (e476)), (hF499.1 15 rfl), (e501), ((hF499.1 11 rfl).trans (e475)), e502, by omega, by omega, by omega, by omega, by omega, by omega, by first | exact Or.inr (Or.inl (⟨by omega, by omega, by omega⟩))⟩
                            · have _q : True := trivial
                              exfalso
                              omega
                          · have _q : True := trivial
                            refine jx_vr (pc_q := 112) (as := [.int (i32 (0))]) (st := []) rfl rfl rfl rfl ⟨rfl, rfl, Nat.le_of_ble_eq_true rfl⟩ rfl rfl (c_need (dd := d) (hd := by omega) (hW := hW423) (g := 0) (ln := ln) (e_ln := show G414 9 = ln from ((hF424.1 9 rfl).trans ((hF396.1 9 rfl).trans ((hF378.1 9 rfl).trans (e_ln))))) (le := le) (e_le := show A415 4 (ln).toNat = le from (congrFun ((hF424.2 4 rfl).trans ((hF396.2 4 rfl).trans (hF378.2 4 rfl))) _).trans (e_le)) (at0 := at2_417) (e_at0 := show G414 10 = at2_417 from (e427)) (fk := fk2_418) (e_fk := show G414 16 = fk2_418 from (e428)) (tk0 := tk2_421) (e_tk0 := show G414 11 = tk2_421 from (e431))  (h_g := ⟨(by decide), (by decide)⟩)  (p_0 := by omega)) (fun o V_q hq => ?_)
                            obtain ⟨G511, A512, at2_513, tk2_514, fk2_515, rfl, rfl, hW516, hF517, e518, e519, e520, p521, p522, q523⟩ := hq
                            have hF524 := Fr_tr hF440 hF517 (Fr_sub (by decide)) (Fr_sub (by decide))
                            have hP525 := Pf_f hP441 hF517 (by decide)
                            have ec526 : ecn A512 (G511 31) = ec2_422 := (ecn_f (hF517.2 15 rfl) (hF517.1 31 rfl)).trans e432
                            have bat2_513 : (0 : Int) ≤ at2_513 ∧ at2_513 ≤ 3002 := e518 ▸ hW516.1 10
                            have ztk2_514 := tz_b tk2_514
                            have btk2_514 : (0 : Int) ≤ tk2_514 ∧ tk2_514 ≤ 5 := e519 ▸ hW516.1 11
                            have bfk2_515 : (0 : Int) ≤ fk2_515 ∧ fk2_515 ≤ 6 := e520 ▸ hW516.1 16
                            refine .inl ⟨rfl, ?_⟩
                            rcases q523 with ⟨a527, a528, a529, a530⟩ | ⟨a531, a532, a533, a534⟩
                            · have _q : True := trivial
                              refine jx_ld (pc_q := 113) (l_q := L459) (st_q := [.ref 66]) rfl (jl_aloadn gL459_0) ?_
                              refine jx_ar (pc_q := 114) (st_q := [.ref 66, .ref 66]) rfl rfl rfl rfl ?_
                              refine jr_get (pc_q := 117) (i := 15) (v := .int (i32 (op2_419))) rfl rfl (by decide) (rFv_eq (by decide) (show G511 15 = op2_419 from ((hF517.1 15 rfl).trans (e429)))) rfl ?_
                              refine jx_ar (pc_q := 118) (st_q := [.int (i32 (1)), .int (i32 (op2_419)), .ref 66]) rfl rfl rfl rfl ?_
                              refine jx_sub (pc_q := 119) rfl rfl ?_
                              refine jr_put (pc_q := 122) (i := 15) (z := (op2_419 - 1)) rfl rfl (by decide) rfl rfl rfl rfl rfl rfl ?_
                              have hW535 : Wk (uG G511 15 ((op2_419 - 1))) A512 := Wk_g hW516 (show (-2147483648 : Int) ≤ (op2_419 - 1) by omega) (show (op2_419 - 1) ≤ (2147483647 : Int) by omega)
                              have hF536 := Fr_g (z := (op2_419 - 1)) (i := 15) hF524 (by decide)
                              have ec537 : ecn A512 ((uG G511 15 ((op2_419 - 1))) 31) = ec2_422 := ec526
                              refine jx_ld (pc_q := 123) (l_q := L459) (st_q := [.ref 66]) rfl (jl_aloadn gL459_0) ?_
                              refine jx_ar (pc_q := 125) (st_q := [.int (i32 (7)), .ref 66]) rfl rfl rfl rfl ?_
                              refine jx_ld (pc_q := 126) (l_q := L459) (st_q := [.int (i32 (r416)), .int (i32 (7)), .ref 66]) rfl (jl_iloadn gL459_1) ?_
                              refine jx_ar (pc_q := 127) (st_q := [.int (i32 (0)), .int (i32 (r416)), .int (i32 (7)), .ref 66]) rfl rfl rfl rfl ?_
                              refine jx_ar (pc_q := 128) (st_q := [.int (i32 (0)), .int (i32 (0)), .int (i32 (r416)), .int (i32 (7)), .ref 66]) rfl rfl rfl rfl ?_
                              refine jx_ar (pc_q := 129) (st_q := [.int (i32 (0)), .int (i32 (0)), .int (i32 (0)), .int (i32 (r416)), .int (i32 (7)), .ref 66]) rfl rfl rfl rfl ?_
                              refine jx_vr (pc_q := 132) (as := [.int (i32 (7)), .int (i32 (r416)), .int (i32 (0)), .int (i32 (0)), .int (i32 (0))]) (st := []) rfl rfl rfl rfl ⟨rfl, rfl, Nat.le_of_ble_eq_true rfl⟩ rfl rfl (c_node_o (dd := d) (hd := by omega) (hW := hW535) (kind := 7) (a := r416) (b := 0) (c := 0) (e := 0) (nd := nd2_420) (e_nd := show (uG G511 15 ((op2_419 - 1))) 31 = nd2_420 from ((hF517.1 31 rfl).trans (e430))) (ec := ec2_422) (e_ec := show ecn A512 ((uG G511 15 ((op2_419 - 1))) 31) = ec2_422 from ec537) (sy := sy) (e_sy := show (uG G511 15 ((op2_419 - 1))) 19 = sy from ((hF517.1 19 rfl).trans ((hF424.1 19 rfl).trans ((hF396.1 19 rfl).trans ((hF378.1 19 rfl).trans (e_sy))))))  (h_kind := ⟨(by decide), (by decide)⟩) (h_a := ⟨(Int.le_trans (by decide : (-2147483648 : Int) ≤ -2147483648) b426.1), (Int.le_trans b426.2 (by decide : (2147483647 : Int) ≤ 2147483647))⟩) (h_b := ⟨(by decide), (by decide)⟩) (h_c := ⟨(by decide), (by decide)⟩) (h_e := ⟨(by decide), (by decide)⟩)  (p_0 := by omega) (p_1 := by omega) (p_2 := by omega)) (fun o V_q hq => ?_)
                              obtain ⟨G538, A539, nd2_540, ec2_541, rfl, rfl, hW542, hF543, hQ544, e545, e546, p547, p548, p549, p550, -⟩ := hq
                              have hF552 := Fr_tr hF536 hF543 (Fr_sub (by decide)) (Fr_sub (by decide))
                              have hP553 := Pf_tr hP525 hQ544 (by omega)
                              have bnd2_540 : (0 : Int) ≤ nd2_540 ∧ nd2_540 ≤ 6999 := e545 ▸ hW542.1 31
                              refine .inr ⟨_, rfl, ?_⟩
                              refine jx_rt (v := some (.int (i32 (nd2_420)))) rfl rfl rfl rfl rfl rfl ?_
                              have z554 := tz_f (tk2_514)
                              exact ⟨_, _, _, at2_513, fk2_515, (op2_419 - 1), nd2_540, tk2_514, ec2_541, rfl, rfl, hW542, hF552, hP553, by omega, ((hF543.1 10 rfl).trans (e518)), ((hF543.1 16 rfl).trans (e520)), (hF543.1 15 rfl), (e545), ((hF543.1 11 rfl).trans (e519)), e546, by omega, by omega, by omega, by omega, by omega, by omega, by first | exact Or.inr (Or.inl (⟨by omega, by omega, by omega⟩))⟩
                            · have _q : True := trivial
                              exfalso
                              omega
                        · have _q : True := trivial
                          exfalso
                          omega
                        · have _q : True := trivial
                          exfalso
                          omega
                      · have _q : True := trivial
                        exfalso
                        omega
                    · have _q : True := trivial
                      refine jx_ld (pc_q := 93) (l_q := [(0, .ref 66)]) (st_q := [.ref 66]) rfl (jl_aloadn rfl) ?_
                      refine jx_ar (pc_q := 94) (st_q := [.int (i32 (1)), .ref 66]) rfl rfl rfl rfl ?_
                      refine jx_vr (pc_q := 97) (as := [.int (i32 (1))]) (st := []) rfl rfl rfl rfl ⟨rfl, rfl, Nat.le_of_ble_eq_true rfl⟩ rfl rfl (c_need (dd := d) (hd := by omega) (hW := hW377) (g := 1) (ln := ln) (e_ln := show G373 9 = ln from ((hF378.1 9 rfl).trans (e_ln))) (le := le) (e_le := show A374 4 (ln).toNat = le from (congrFun (hF378.2 4 rfl) _).trans (e_le)) (at0 := at0) (e_at0 := show G373 10 = at0 from ((hF378.1 10 rfl).trans (e_at0))) (fk := fk2_375) (e_fk := show G373 16 = fk2_375 from (e379)) (tk0 := tk0) (e_tk0 := show G373 11 = tk0 from ((hF378.1 11 rfl).trans (e_tk0)))  (h_g := ⟨(by decide), (by decide)⟩)  (p_0 := by omega)) (fun o V_q hq => ?_)
                      obtain ⟨G555, A556, at2_557, tk2_558, fk2_559, rfl, rfl, hW560, hF561, e562, e563, e564, p565, p566, q567⟩ := hq
                      have hF568 := Fr_tr hF383 hF561 (Fr_sub (by decide)) (Fr_sub (by decide))
                      have hP569 := Pf_f hP384 hF561 (by decide)
                      have ec570 : ecn A556 (G555 31) = ec := (ecn_f (hF561.2 15 rfl) (hF561.1 31 rfl)).trans ec385
                      have bat2_557 : (0 : Int) ≤ at2_557 ∧ at2_557 ≤ 3002 := e562 ▸ hW560.1 10
                      have ztk2_558 := tz_b tk2_558
                      have btk2_558 : (0 : Int) ≤ tk2_558 ∧ tk2_558 ≤ 5 := e563 ▸ hW560.1 11
                      have bfk2_559 : (0 : Int) ≤ fk2_559 ∧ fk2_559 ≤ 6 := e564 ▸ hW560.1 16
                      refine .inl ⟨rfl, ?_⟩
                      rcases q567 with ⟨a571, a572, a573, a574⟩ | ⟨a575, a576, a577, a578⟩
                      · have _q : True := trivial
                        refine jx_ld (pc_q := 98) (l_q := [(0, .ref 66)]) (st_q := [.ref 66]) rfl (jl_aloadn rfl) ?_
                        refine jx_vr (pc_q := 101) (as := []) (st := []) rfl rfl rfl rfl ⟨rfl, rfl, Nat.le_of_ble_eq_true rfl⟩ rfl rfl (hE (dd := d) (hd := by omega) (hW := hW560)  (ln := ln) (e_ln := show G555 9 = ln from ((hF561.1 9 rfl).trans ((hF378.1 9 rfl).trans (e_ln)))) (le := le) (e_le := show A556 4 (ln).toNat = le from (congrFun ((hF561.2 4 rfl).trans (hF378.2 4 rfl)) _).trans (e_le)) (at0 := at2_557) (e_at0 := show G555 10 = at2_557 from (e562)) (fk := fk2_559) (e_fk := show G555 16 = fk2_559 from (e564)) (op0 := op2_376) (e_op0 := show G555 15 = op2_376 from ((hF561.1 15 rfl).trans (e380))) (nd := nd) (e_nd := show G555 31 = nd from ((hF561.1 31 rfl).trans ((hF378.1 31 rfl).trans (e_nd)))) (tk0 := tk2_558) (e_tk0 := show G555 11 = tk2_558 from (e563)) (ec := ec) (e_ec := show ecn A556 (G555 31) = ec from ec570) (sy := sy) (e_sy := show G555 19 = sy from ((hF561.1 19 rfl).trans ((hF378.1 19 rfl).trans (e_sy)))) (i_SV := (SV_ext (((hF561.1 29 rfl).trans (hF378.1 29 rfl))) (((hF561.2 14 rfl).trans (hF378.2 14 rfl))) i_SV))   (p_0 := by omega) (p_1 := by omega) (p_2 := by omega) (p_3 := by omega) (p_4 := by omega) (p_5 := by omega)) (fun o V_q hq => ?_)
                        obtain ⟨G579, A580, r581, at2_582, fk2_583, op2_584, nd2_585, tk2_586, ec2_587, rfl, rfl, hW588, hF589, hQ590, b591, e592, e593, e594, e595, e596, e597, p598, p599, p600, p601, p602, p603, q604⟩ := hq
                        have hF605 := Fr_tr hF568 hF589 (Fr_sub (by decide)) (Fr_sub (by decide))
                        have hP606 := Pf_tr hP569 hQ590 (by omega)
                        have bat2_582 : (0 : Int) ≤ at2_582 ∧ at2_582 ≤ 3002 := e592 ▸ hW588.1 10
                        have bfk2_583 : (0 : Int) ≤ fk2_583 ∧ fk2_583 ≤ 6 := e593 ▸ hW588.1 16
                        have bop2_584 : (-2147483648 : Int) ≤ op2_584 ∧ op2_584 ≤ 2147483647 := e594 ▸ hW588.1 15
                        have bnd2_585 : (0 : Int) ≤ nd2_585 ∧ nd2_585 ≤ 6999 := e595 ▸ hW588.1 31
                        have ztk2_586 := tz_b tk2_586
                        have btk2_586 : (0 : Int) ≤ tk2_586 ∧ tk2_586 ≤ 5 := e596 ▸ hW588.1 11
                        refine .inr ⟨_, rfl, ?_⟩
                        rcases q604 with ⟨a607, a608, a609, a610, a611, a612⟩ | ⟨a613, a614, a615⟩ | ⟨a616, a617, a618, a619, a620, a621, a622, a623⟩
                        · have _q : True := trivial
                          refine jx_ld (pc_q := 102) (l_q := jSto1 [(0, .ref 66)] 1 (.int (i32 (r581)))) (st_q := []) rfl rfl ?_
                          obtain ⟨L624, eL624⟩ : ∃ q, q = jSto1 [(0, .ref 66)] 1 (.int (i32 (r581))) := ⟨_, rfl⟩
                          rw [← eL624]
                          have gL624_0 : jGet L624 0 = some (.ref 66) := eL624 ▸ jg_ne (by decide) (rfl : jGet [(0, .ref 66)] 0 = some (.ref 66)) rfl
                          have gL624_1 : jGet L624 1 = some (.int (i32 (r581))) := eL624 ▸ jg_eq
                          refine jx_ld (pc_q := 103) (l_q := L624) (st_q := [.ref 66]) rfl (jl_aloadn gL624_0) ?_
                          refine jx_ld (pc_q := 104) (l_q := L624) (st_q := [.ref 66, .ref 66]) rfl (jl_aloadn gL624_0) ?_
                          refine jx_ar (pc_q := 106) (st_q := [.int (i32 (41)), .ref 66, .ref 66]) rfl rfl rfl rfl ?_
                          have b625 : (-2147483648 : Int) ≤ G579 13 ∧ G579 13 ≤ 2147483647 := hW588.1 13
                          refine jx_vr (pc_q := 109) (as := [.int (i32 (41))]) (st := [.ref 66]) rfl rfl rfl rfl ⟨rfl, rfl, Nat.le_of_ble_eq_true rfl⟩ rfl rfl (c_is (dd := d) (hd := by omega) (hW := hW588) (k := 41) (tk := tk2_586) (e_tk := show G579 11 = tk2_586 from (e596)) (tn := G579 13) (e_tn := show G579 13 = G579 13 from rfl)  (h_k := ⟨(by decide), (by decide)⟩)  ) (fun o V_q hq => ?_)
                          obtain ⟨r626, rfl, rfl, b627, q628⟩ := hq
                          refine .inr ⟨_, rfl, ?_⟩
                          rcases q628 with ⟨rfl, a629, a630, a631⟩ | rfl
                          · have _q : True := trivial
                            refine jx_vr (pc_q := 112) (as := [.int (i32 (1))]) (st := []) rfl rfl rfl rfl ⟨rfl, rfl, Nat.le_of_ble_eq_true rfl⟩ rfl rfl (c_need (dd := d) (hd := by omega) (hW := hW588) (g := 1) (ln := ln) (e_ln := show G579 9 = ln from ((hF589.1 9 rfl).trans ((hF561.1 9 rfl).trans ((hF378.1 9 rfl).trans (e_ln))))) (le := le) (e_le := show A580 4 (ln).toNat = le from (congrFun ((hF589.2 4 rfl).trans ((hF561.2 4 rfl).trans (hF378.2 4 rfl))) _).trans (e_le)) (at0 := at2_582) (e_at0 := show G579 10 = at2_582 from (e592)) (fk := fk2_583) (e_fk := show G579 16 = fk2_583 from (e593)) (tk0 := tk2_586) (e_tk0 := show G579 11 = tk2_586 from (e596))  (h_g := ⟨(by decide), (by decide)⟩)  (p_0 := by omega)) (fun o V_q hq => ?_)
                            obtain ⟨G632, A633, at2_634, tk2_635, fk2_636, rfl, rfl, hW637, hF638, e639, e640, e641, p642, p643, q644⟩ := hq
                            have hF645 := Fr_tr hF605 hF638 (Fr_sub (by decide)) (Fr_sub (by decide))
                            have hP646 := Pf_f hP606 hF638 (by decide)
                            have ec647 : ecn A633 (G632 31) = ec2_587 := (ecn_f (hF638.2 15 rfl) (hF638.1 31 rfl)).trans e597
                            have bat2_634 : (0 : Int) ≤ at2_634 ∧ at2_634 ≤ 3002 := e639 ▸ hW637.1 10
                            have ztk2_635 := tz_b tk2_635
                            have btk2_635 : (0 : Int) ≤ tk2_635 ∧ tk2_635 ≤ 5 := e640 ▸ hW637.1 11
                            have bfk2_636 : (0 : Int) ≤ fk2_636 ∧ fk2_636 ≤ 6 := e641 ▸ hW637.1 16
                            refine .inl ⟨rfl, ?_⟩
                            rcases q644 with ⟨a648, a649, a650, a651⟩ | ⟨a652, a653, a654, a655⟩
                            · have _q : True := trivial
                              refine jx_ld (pc_q := 113) (l_q := L624) (st_q := [.ref 66]) rfl (jl_aloadn gL624_0) ?_
                              refine jx_ar (pc_q := 114) (st_q := [.ref 66, .ref 66]) rfl rfl rfl rfl ?_
                              refine jr_get (pc_q := 117) (i := 15) (v := .int (i32 (op2_584))) rfl rfl (by decide) (rFv_eq (by decide) (show G632 15 = op2_584 from ((hF638.1 15 rfl).trans (e594)))) rfl ?_
                              refine jx_ar (pc_q := 118) (st_q := [.int (i32 (1)), .int (i32 (op2_584)), .ref 66]) rfl rfl rfl rfl ?_
                              refine jx_sub (pc_q := 119) rfl rfl ?_
                              refine jr_put (pc_q := 122) (i := 15) (z := (op2_584 - 1)) rfl rfl (by decide) rfl rfl rfl rfl rfl rfl ?_
                              have hW656 : Wk (uG G632 15 ((op2_584 - 1))) A633 := Wk_g hW637 (show (-2147483648 : Int) ≤ (op2_584 - 1) by omega) (show (op2_584 - 1) ≤ (2147483647 : Int) by omega)
                              have hF657 := Fr_g (z := (op2_584 - 1)) (i := 15) hF645 (by decide)
                              have ec658 : ecn A633 ((uG G632 15 ((op2_584 - 1))) 31) = ec2_587 := ec647
                              refine jx_ld (pc_q := 123) (l_q := L624) (st_q := [.ref 66]) rfl (jl_aloadn gL624_0) ?_
                              refine jx_ar (pc_q := 125) (st_q := [.int (i32 (7)), .ref 66]) rfl rfl rfl rfl ?_
                              refine jx_ld (pc_q := 126) (l_q := L624) (st_q := [.int (i32 (r581)), .int (i32 (7)), .ref 66]) rfl (jl_iloadn gL624_1) ?_
                              refine jx_ar (pc_q := 127) (st_q := [.int (i32 (0)), .int (i32 (r581)), .int (i32 (7)), .ref 66]) rfl rfl rfl rfl ?_
                              refine jx_ar (pc_q := 128) (st_q := [.int (i32 (0)), .int (i32 (0)), .int (i32 (r581)), .int (i32 (7)), .ref 66]) rfl rfl rfl rfl ?_
                              refine jx_ar (pc_q := 129) (st_q := [.int (i32 (0)), .int (i32 (0)), .int (i32 (0)), .int (i32 (r581)), .int (i32 (7)), .ref 66]) rfl rfl rfl rfl ?_
                              refine jx_vr (pc_q := 132) (as := [.int (i32 (7)), .int (i32 (r581)), .int (i32 (0)), .int (i32 (0)), .int (i32 (0))]) (st := []) rfl rfl rfl rfl ⟨rfl, rfl, Nat.le_of_ble_eq_true rfl⟩ rfl rfl (c_node_o (dd := d) (hd := by omega) (hW := hW656) (kind := 7) (a := r581) (b := 0) (c := 0) (e := 0) (nd := nd2_585) (e_nd := show (uG G632 15 ((op2_584 - 1))) 31 = nd2_585 from ((hF638.1 31 rfl).trans (e595))) (ec := ec2_587) (e_ec := show ecn A633 ((uG G632 15 ((op2_584 - 1))) 31) = ec2_587 from ec658) (sy := sy) (e_sy := show (uG G632 15 ((op2_584 - 1))) 19 = sy from ((hF638.1 19 rfl).trans ((hF589.1 19 rfl).trans ((hF561.1 19 rfl).trans ((hF378.1 19 rfl).trans (e_sy))))))  (h_kind := ⟨(by decide), (by decide)⟩) (h_a := ⟨(Int.le_trans (by decide : (-2147483648 : Int) ≤ -2147483648) b591.1), (Int.le_trans b591.2 (by decide : (2147483647 : Int) ≤ 2147483647))⟩) (h_b := ⟨(by decide), (by decide)⟩) (h_c := ⟨(by decide), (by decide)⟩) (h_e := ⟨(by decide), (by decide)⟩)  (p_0 := by omega) (p_1 := by omega) (p_2 := by omega)) (fun o V_q hq => ?_)
                              obtain ⟨G659, A660, nd2_661, ec2_662, rfl, rfl, hW663, hF664, hQ665, e666, e667, p668, p669, p670, p671, -⟩ := hq
                              have hF673 := Fr_tr hF657 hF664 (Fr_sub (by decide)) (Fr_sub (by decide))
                              have hP674 := Pf_tr hP646 hQ665 (by omega)
                              have bnd2_661 : (0 : Int) ≤ nd2_661 ∧ nd2_661 ≤ 6999 := e666 ▸ hW663.1 31
                              refine .inr ⟨_, rfl, ?_⟩
                              refine jx_rt (v := some (.int (i32 (nd2_585)))) rfl rfl rfl rfl rfl rfl ?_
                              have z675 := tz_f (tk2_635)
                              exact ⟨_, _, _, at2_634, fk2_636, (op2_584 - 1), nd2_661, tk2_635, ec2_662, rfl, rfl, hW663, hF673, hP674, by omega, ((hF664.1 10 rfl).trans (e639)), ((hF664.1 16 rfl).trans (e641)), (hF664.1 15 rfl), (e666), ((hF664.1 11 rfl).trans (e640)), e667, by omega, by omega, by omega, by omega, by omega, by omega, by first | exact Or.inr (Or.inl (⟨by omega, by omega, by omega⟩))⟩
                            · have _q : True := trivial
                              exfalso
                              omega
                          · have _q : True := trivial
                            refine jx_vr (pc_q := 112) (as := [.int (i32 (0))]) (st := []) rfl rfl rfl rfl ⟨rfl, rfl, Nat.le_of_ble_eq_true rfl⟩ rfl rfl (c_need (dd := d) (hd := by omega) (hW := hW588) (g := 0) (ln := ln) (e_ln := show G579 9 = ln from ((hF589.1 9 rfl).trans ((hF561.1 9 rfl).trans ((hF378.1 9 rfl).trans (e_ln))))) (le := le) (e_le := show A580 4 (ln).toNat = le from (congrFun ((hF589.2 4 rfl).trans ((hF561.2 4 rfl).trans (hF378.2 4 rfl))) _).trans (e_le)) (at0 := at2_582) (e_at0 := show G579 10 = at2_582 from (e592)) (fk := fk2_583) (e_fk := show G579 16 = fk2_583 from (e593)) (tk0 := tk2_586) (e_tk0 := show G579 11 = tk2_586 from (e596))  (h_g := ⟨(by decide), (by decide)⟩)  (p_0 := by omega)) (fun o V_q hq => ?_)
                            obtain ⟨G676, A677, at2_678, tk2_679, fk2_680, rfl, rfl, hW681, hF682, e683, e684, e685, p686, p687, q688⟩ := hq
                            have hF689 := Fr_tr hF605 hF682 (Fr_sub (by decide)) (Fr_sub (by decide))
                            have hP690 := Pf_f hP606 hF682 (by decide)
                            have ec691 : ecn A677 (G676 31) = ec2_587 := (ecn_f (hF682.2 15 rfl) (hF682.1 31 rfl)).trans e597
                            have bat2_678 : (0 : Int) ≤ at2_678 ∧ at2_678 ≤ 3002 := e683 ▸ hW681.1 10
                            have ztk2_679 := tz_b tk2_679
                            have btk2_679 : (0 : Int) ≤ tk2_679 ∧ tk2_679 ≤ 5 := e684 ▸ hW681.1 11
                            have bfk2_680 : (0 : Int) ≤ fk2_680 ∧ fk2_680 ≤ 6 := e685 ▸ hW681.1 16
                            refine .inl ⟨rfl, ?_⟩
                            rcases q688 with ⟨a692, a693, a694, a695⟩ | ⟨a696, a697, a698, a699⟩
                            · have _q : True := trivial
                              refine jx_ld (pc_q := 113) (l_q := L624) (st_q := [.ref 66]) rfl (jl_aloadn gL624_0) ?_
                              refine jx_ar (pc_q := 114) (st_q := [.ref 66, .ref 66]) rfl rfl rfl rfl ?_
                              refine jr_get (pc_q := 117) (i := 15) (v := .int (i32 (op2_584))) rfl rfl (by decide) (rFv_eq (by decide) (show G676 15 = op2_584 from ((hF682.1 15 rfl).trans (e594)))) rfl ?_
                              refine jx_ar (pc_q := 118) (st_q := [.int (i32 (1)), .int (i32 (op2_584)), .ref 66]) rfl rfl rfl rfl ?_
                              refine jx_sub (pc_q := 119) rfl rfl ?_
                              refine jr_put (pc_q := 122) (i := 15) (z := (op2_584 - 1)) rfl rfl (by decide) rfl rfl rfl rfl rfl rfl ?_
                              have hW700 : Wk (uG G676 15 ((op2_584 - 1))) A677 := Wk_g hW681 (show (-2147483648 : Int) ≤ (op2_584 - 1) by omega) (show (op2_584 - 1) ≤ (2147483647 : Int) by omega)
                              have hF701 := Fr_g (z := (op2_584 - 1)) (i := 15) hF689 (by decide)
                              have ec702 : ecn A677 ((uG G676 15 ((op2_584 - 1))) 31) = ec2_587 := ec691
                              refine jx_ld (pc_q := 123) (l_q := L624) (st_q := [.ref 66]) rfl (jl_aloadn gL624_0) ?_
                              refine jx_ar (pc_q := 125) (st_q := [.int (i32 (7)), .ref 66]) rfl rfl rfl rfl ?_
                              refine jx_ld (pc_q := 126) (l_q := L624) (st_q := [.int (i32 (r581)), .int (i32 (7)), .ref 66]) rfl (jl_iloadn gL624_1) ?_
                              refine jx_ar (pc_q := 127) (st_q := [.int (i32 (0)), .int (i32 (r581)), .int (i32 (7)), .ref 66]) rfl rfl rfl rfl ?_
                              refine jx_ar (pc_q := 128) (st_q := [.int (i32 (0)), .int (i32 (0)), .int (i32 (r581)), .int (i32 (7)), .ref 66]) rfl rfl rfl rfl ?_
                              refine jx_ar (pc_q := 129) (st_q := [.int (i32 (0)), .int (i32 (0)), .int (i32 (0)), .int (i32 (r581)), .int (i32 (7)), .ref 66]) rfl rfl rfl rfl ?_
                              refine jx_vr (pc_q := 132) (as := [.int (i32 (7)), .int (i32 (r581)), .int (i32 (0)), .int (i32 (0)), .int (i32 (0))]) (st := []) rfl rfl rfl rfl ⟨rfl, rfl, Nat.le_of_ble_eq_true rfl⟩ rfl rfl (c_node_o (dd := d) (hd := by omega) (hW := hW700) (kind := 7) (a := r581) (b := 0) (c := 0) (e := 0) (nd := nd2_585) (e_nd := show (uG G676 15 ((op2_584 - 1))) 31 = nd2_585 from ((hF682.1 31 rfl).trans (e595))) (ec := ec2_587) (e_ec := show ecn A677 ((uG G676 15 ((op2_584 - 1))) 31) = ec2_587 from ec702) (sy := sy) (e_sy := show (uG G676 15 ((op2_584 - 1))) 19 = sy from ((hF682.1 19 rfl).trans ((hF589.1 19 rfl).trans ((hF561.1 19 rfl).trans ((hF378.1 19 rfl).trans (e_sy))))))  (h_kind := ⟨(by decide), (by decide)⟩) (h_a := ⟨(Int.le_trans (by decide : (-2147483648 : Int) ≤ -2147483648) b591.1), (Int.le_trans b591.2 (by decide : (2147483647 : Int) ≤ 2147483647))⟩) (h_b := ⟨(by decide), (by decide)⟩) (h_c := ⟨(by decide), (by decide)⟩) (h_e := ⟨(by decide), (by decide)⟩)  (p_0 := by omega) (p_1 := by omega) (p_2 := by omega)) (fun o V_q hq => ?_)
                              obtain ⟨G703, A704, nd2_705, ec2_706, rfl, rfl, hW707, hF708, hQ709, e710, e711, p712, p713, p714, p715, -⟩ := hq
                              have hF717 := Fr_tr hF701 hF708 (Fr_sub (by decide)) (Fr_sub (by decide))
                              have hP718 := Pf_tr hP690 hQ709 (by omega)
                              have bnd2_705 : (0 : Int) ≤ nd2_705 ∧ nd2_705 ≤ 6999 := e710 ▸ hW707.1 31
                              refine .inr ⟨_, rfl, ?_⟩
                              refine jx_rt (v := some (.int (i32 (nd2_585)))) rfl rfl rfl rfl rfl rfl ?_
                              have z719 := tz_f (tk2_679)
                              exact ⟨_, _, _, at2_678, fk2_680, (op2_584 - 1), nd2_705, tk2_679, ec2_706, rfl, rfl, hW707, hF717, hP718, by omega, ((hF708.1 10 rfl).trans (e683)), ((hF708.1 16 rfl).trans (e685)), (hF708.1 15 rfl), (e710), ((hF708.1 11 rfl).trans (e684)), e711, by omega, by omega, by omega, by omega, by omega, by omega, by first | exact Or.inr (Or.inl (⟨by omega, by omega, by omega⟩))⟩
                            · have _q : True := trivial
                              exfalso
                              omega
                        · have _q : True := trivial
                          exfalso
                          omega
                        · have _q : True := trivial
                          exfalso
                          omega
                      · have _q : True := trivial
                        have pz720 : at0 + tz tk2_558 ≤ at2_557 := by omega
                        refine jx_ld (pc_q := 98) (l_q := [(0, .ref 66)]) (st_q := [.ref 66]) rfl (jl_aloadn rfl) ?_
                        refine jx_vr (pc_q := 101) (as := []) (st := []) rfl rfl rfl rfl ⟨rfl, rfl, Nat.le_of_ble_eq_true rfl⟩ rfl rfl (hE (dd := d) (hd := by omega) (hW := hW560)  (ln := ln) (e_ln := show G555 9 = ln from ((hF561.1 9 rfl).trans ((hF378.1 9 rfl).trans (e_ln)))) (le := le) (e_le := show A556 4 (ln).toNat = le from (congrFun ((hF561.2 4 rfl).trans (hF378.2 4 rfl)) _).trans (e_le)) (at0 := at2_557) (e_at0 := show G555 10 = at2_557 from (e562)) (fk := fk2_559) (e_fk := show G555 16 = fk2_559 from (e564)) (op0 := op2_376) (e_op0 := show G555 15 = op2_376 from ((hF561.1 15 rfl).trans (e380))) (nd := nd) (e_nd := show G555 31 = nd from ((hF561.1 31 rfl).trans ((hF378.1 31 rfl).trans (e_nd)))) (tk0 := tk2_558) (e_tk0 := show G555 11 = tk2_558 from (e563)) (ec := ec) (e_ec := show ecn A556 (G555 31) = ec from ec570) (sy := sy) (e_sy := show G555 19 = sy from ((hF561.1 19 rfl).trans ((hF378.1 19 rfl).trans (e_sy)))) (i_SV := (SV_ext (((hF561.1 29 rfl).trans (hF378.1 29 rfl))) (((hF561.2 14 rfl).trans (hF378.2 14 rfl))) i_SV))   (p_0 := by omega) (p_1 := by omega) (p_2 := by omega) (p_3 := by omega) (p_4 := by omega) (p_5 := by omega)) (fun o V_q hq => ?_)
                        obtain ⟨G721, A722, r723, at2_724, fk2_725, op2_726, nd2_727, tk2_728, ec2_729, rfl, rfl, hW730, hF731, hQ732, b733, e734, e735, e736, e737, e738, e739, p740, p741, p742, p743, p744, p745, q746⟩ := hq
                        have hF747 := Fr_tr hF568 hF731 (Fr_sub (by decide)) (Fr_sub (by decide))
                        have hP748 := Pf_tr hP569 hQ732 (by omega)
                        have bat2_724 : (0 : Int) ≤ at2_724 ∧ at2_724 ≤ 3002 := e734 ▸ hW730.1 10
                        have bfk2_725 : (0 : Int) ≤ fk2_725 ∧ fk2_725 ≤ 6 := e735 ▸ hW730.1 16
                        have bop2_726 : (-2147483648 : Int) ≤ op2_726 ∧ op2_726 ≤ 2147483647 := e736 ▸ hW730.1 15
                        have bnd2_727 : (0 : Int) ≤ nd2_727 ∧ nd2_727 ≤ 6999 := e737 ▸ hW730.1 31
                        have ztk2_728 := tz_b tk2_728
                        have btk2_728 : (0 : Int) ≤ tk2_728 ∧ tk2_728 ≤ 5 := e738 ▸ hW730.1 11
                        refine .inr ⟨_, rfl, ?_⟩
                        rcases q746 with ⟨a749, a750, a751, a752, a753, a754⟩ | ⟨a755, a756, a757⟩ | ⟨a758, a759, a760, a761, a762, a763, a764, a765⟩
                        · have _q : True := trivial
                          exfalso
                          omega
                        · have _q : True := trivial
                          refine jx_ld (pc_q := 102) (l_q := jSto1 [(0, .ref 66)] 1 (.int (i32 (r723)))) (st_q := []) rfl rfl ?_
                          obtain ⟨L766, eL766⟩ : ∃ q, q = jSto1 [(0, .ref 66)] 1 (.int (i32 (r723))) := ⟨_, rfl⟩
                          rw [← eL766]
                          have gL766_0 : jGet L766 0 = some (.ref 66) := eL766 ▸ jg_ne (by decide) (rfl : jGet [(0, .ref 66)] 0 = some (.ref 66)) rfl
                          have gL766_1 : jGet L766 1 = some (.int (i32 (r723))) := eL766 ▸ jg_eq
                          refine jx_ld (pc_q := 103) (l_q := L766) (st_q := [.ref 66]) rfl (jl_aloadn gL766_0) ?_
                          refine jx_ld (pc_q := 104) (l_q := L766) (st_q := [.ref 66, .ref 66]) rfl (jl_aloadn gL766_0) ?_
                          refine jx_ar (pc_q := 106) (st_q := [.int (i32 (41)), .ref 66, .ref 66]) rfl rfl rfl rfl ?_
                          have b767 : (-2147483648 : Int) ≤ G721 13 ∧ G721 13 ≤ 2147483647 := hW730.1 13
                          refine jx_vr (pc_q := 109) (as := [.int (i32 (41))]) (st := [.ref 66]) rfl rfl rfl rfl ⟨rfl, rfl, Nat.le_of_ble_eq_true rfl⟩ rfl rfl (c_is (dd := d) (hd := by omega) (hW := hW730) (k := 41) (tk := tk2_728) (e_tk := show G721 11 = tk2_728 from (e738)) (tn := G721 13) (e_tn := show G721 13 = G721 13 from rfl)  (h_k := ⟨(by decide), (by decide)⟩)  ) (fun o V_q hq => ?_)
                          obtain ⟨r768, rfl, rfl, b769, q770⟩ := hq
                          refine .inr ⟨_, rfl, ?_⟩
                          rcases q770 with ⟨rfl, a771, a772, a773⟩ | rfl
                          · have _q : True := trivial
                            refine jx_vr (pc_q := 112) (as := [.int (i32 (1))]) (st := []) rfl rfl rfl rfl ⟨rfl, rfl, Nat.le_of_ble_eq_true rfl⟩ rfl rfl (c_need (dd := d) (hd := by omega) (hW := hW730) (g := 1) (ln := ln) (e_ln := show G721 9 = ln from ((hF731.1 9 rfl).trans ((hF561.1 9 rfl).trans ((hF378.1 9 rfl).trans (e_ln))))) (le := le) (e_le := show A722 4 (ln).toNat = le from (congrFun ((hF731.2 4 rfl).trans ((hF561.2 4 rfl).trans (hF378.2 4 rfl))) _).trans (e_le)) (at0 := at2_724) (e_at0 := show G721 10 = at2_724 from (e734)) (fk := fk2_725) (e_fk := show G721 16 = fk2_725 from (e735)) (tk0 := tk2_728) (e_tk0 := show G721 11 = tk2_728 from (e738))  (h_g := ⟨(by decide), (by decide)⟩)  (p_0 := by omega)) (fun o V_q hq => ?_)
                            obtain ⟨G774, A775, at2_776, tk2_777, fk2_778, rfl, rfl, hW779, hF780, e781, e782, e783, p784, p785, q786⟩ := hq
                            have hF787 := Fr_tr hF747 hF780 (Fr_sub (by decide)) (Fr_sub (by decide))
                            have hP788 := Pf_f hP748 hF780 (by decide)
                            have ec789 : ecn A775 (G774 31) = ec2_729 := (ecn_f (hF780.2 15 rfl) (hF780.1 31 rfl)).trans e739
                            have bat2_776 : (0 : Int) ≤ at2_776 ∧ at2_776 ≤ 3002 := e781 ▸ hW779.1 10
                            have ztk2_777 := tz_b tk2_777
                            have btk2_777 : (0 : Int) ≤ tk2_777 ∧ tk2_777 ≤ 5 := e782 ▸ hW779.1 11
                            have bfk2_778 : (0 : Int) ≤ fk2_778 ∧ fk2_778 ≤ 6 := e783 ▸ hW779.1 16
                            refine .inl ⟨rfl, ?_⟩
                            rcases q786 with ⟨a790, a791, a792, a793⟩ | ⟨a794, a795, a796, a797⟩
                            · have _q : True := trivial
                              refine jx_ld (pc_q := 113) (l_q := L766) (st_q := [.ref 66]) rfl (jl_aloadn gL766_0) ?_
                              refine jx_ar (pc_q := 114) (st_q := [.ref 66, .ref 66]) rfl rfl rfl rfl ?_
                              refine jr_get (pc_q := 117) (i := 15) (v := .int (i32 (op2_726))) rfl rfl (by decide) (rFv_eq (by decide) (show G774 15 = op2_726 from ((hF780.1 15 rfl).trans (e736)))) rfl ?_
                              refine jx_ar (pc_q := 118) (st_q := [.int (i32 (1)), .int (i32 (op2_726)), .ref 66]) rfl rfl rfl rfl ?_
                              refine jx_sub (pc_q := 119) rfl rfl ?_
                              refine jr_put (pc_q := 122) (i := 15) (z := (op2_726 - 1)) rfl rfl (by decide) rfl rfl rfl rfl rfl rfl ?_
                              have hW798 : Wk (uG G774 15 ((op2_726 - 1))) A775 := Wk_g hW779 (show (-2147483648 : Int) ≤ (op2_726 - 1) by omega) (show (op2_726 - 1) ≤ (2147483647 : Int) by omega)
                              have hF799 := Fr_g (z := (op2_726 - 1)) (i := 15) hF787 (by decide)
                              have ec800 : ecn A775 ((uG G774 15 ((op2_726 - 1))) 31) = ec2_729 := ec789
                              refine jx_ld (pc_q := 123) (l_q := L766) (st_q := [.ref 66]) rfl (jl_aloadn gL766_0) ?_
                              refine jx_ar (pc_q := 125) (st_q := [.int (i32 (7)), .ref 66]) rfl rfl rfl rfl ?_
                              refine jx_ld (pc_q := 126) (l_q := L766) (st_q := [.int (i32 (r723)), .int (i32 (7)), .ref 66]) rfl (jl_iloadn gL766_1) ?_
                              refine jx_ar (pc_q := 127) (st_q := [.int (i32 (0)), .int (i32 (r723)), .int (i32 (7)), .ref 66]) rfl rfl rfl rfl ?_
                              refine jx_ar (pc_q := 128) (st_q := [.int (i32 (0)), .int (i32 (0)), .int (i32 (r723)), .int (i32 (7)), .ref 66]) rfl rfl rfl rfl ?_
                              refine jx_ar (pc_q := 129) (st_q := [.int (i32 (0)), .int (i32 (0)), .int (i32 (0)), .int (i32 (r723)), .int (i32 (7)), .ref 66]) rfl rfl rfl rfl ?_
                              refine jx_vr (pc_q := 132) (as := [.int (i32 (7)), .int (i32 (r723)), .int (i32 (0)), .int (i32 (0)), .int (i32 (0))]) (st := []) rfl rfl rfl rfl ⟨rfl, rfl, Nat.le_of_ble_eq_true rfl⟩ rfl rfl (c_node_o (dd := d) (hd := by omega) (hW := hW798) (kind := 7) (a := r723) (b := 0) (c := 0) (e := 0) (nd := nd2_727) (e_nd := show (uG G774 15 ((op2_726 - 1))) 31 = nd2_727 from ((hF780.1 31 rfl).trans (e737))) (ec := ec2_729) (e_ec := show ecn A775 ((uG G774 15 ((op2_726 - 1))) 31) = ec2_729 from ec800) (sy := sy) (e_sy := show (uG G774 15 ((op2_726 - 1))) 19 = sy from ((hF780.1 19 rfl).trans ((hF731.1 19 rfl).trans ((hF561.1 19 rfl).trans ((hF378.1 19 rfl).trans (e_sy))))))  (h_kind := ⟨(by decide), (by decide)⟩) (h_a := ⟨(Int.le_trans (by decide : (-2147483648 : Int) ≤ -2147483648) b733.1), (Int.le_trans b733.2 (by decide : (2147483647 : Int) ≤ 2147483647))⟩) (h_b := ⟨(by decide), (by decide)⟩) (h_c := ⟨(by decide), (by decide)⟩) (h_e := ⟨(by decide), (by decide)⟩)  (p_0 := by omega) (p_1 := by omega) (p_2 := by omega)) (fun o V_q hq => ?_)
                              obtain ⟨G801, A802, nd2_803, ec2_804, rfl, rfl, hW805, hF806, hQ807, e808, e809, p810, p811, p812, p813, -⟩ := hq
                              have hF815 := Fr_tr hF799 hF806 (Fr_sub (by decide)) (Fr_sub (by decide))
                              have hP816 := Pf_tr hP788 hQ807 (by omega)
                              have bnd2_803 : (0 : Int) ≤ nd2_803 ∧ nd2_803 ≤ 6999 := e808 ▸ hW805.1 31
                              refine .inr ⟨_, rfl, ?_⟩
                              refine jx_rt (v := some (.int (i32 (nd2_727)))) rfl rfl rfl rfl rfl rfl ?_
                              have z817 := tz_f (tk2_777)
                              exact ⟨_, _, _, at2_776, fk2_778, (op2_726 - 1), nd2_803, tk2_777, ec2_804, rfl, rfl, hW805, hF815, hP816, by omega, ((hF806.1 10 rfl).trans (e781)), ((hF806.1 16 rfl).trans (e783)), (hF806.1 15 rfl), (e808), ((hF806.1 11 rfl).trans (e782)), e809, by omega, by omega, by omega, by omega, by omega, by omega, by first | exact Or.inr (Or.inl (⟨by omega, by omega, by omega⟩))⟩
                            · have _q : True := trivial
                              exfalso
                              omega
                          · have _q : True := trivial
                            refine jx_vr (pc_q := 112) (as := [.int (i32 (0))]) (st := []) rfl rfl rfl rfl ⟨rfl, rfl, Nat.le_of_ble_eq_true rfl⟩ rfl rfl (c_need (dd := d) (hd := by omega) (hW := hW730) (g := 0) (ln := ln) (e_ln := show G721 9 = ln from ((hF731.1 9 rfl).trans ((hF561.1 9 rfl).trans ((hF378.1 9 rfl).trans (e_ln))))) (le := le) (e_le := show A722 4 (ln).toNat = le from (congrFun ((hF731.2 4 rfl).trans ((hF561.2 4 rfl).trans (hF378.2 4 rfl))) _).trans (e_le)) (at0 := at2_724) (e_at0 := show G721 10 = at2_724 from (e734)) (fk := fk2_725) (e_fk := show G721 16 = fk2_725 from (e735)) (tk0 := tk2_728) (e_tk0 := show G721 11 = tk2_728 from (e738))  (h_g := ⟨(by decide), (by decide)⟩)  (p_0 := by omega)) (fun o V_q hq => ?_)
                            obtain ⟨G818, A819, at2_820, tk2_821, fk2_822, rfl, rfl, hW823, hF824, e825, e826, e827, p828, p829, q830⟩ := hq
                            have hF831 := Fr_tr hF747 hF824 (Fr_sub (by decide)) (Fr_sub (by decide))
                            have hP832 := Pf_f hP748 hF824 (by decide)
                            have ec833 : ecn A819 (G818 31) = ec2_729 := (ecn_f (hF824.2 15 rfl) (hF824.1 31 rfl)).trans e739
                            have bat2_820 : (0 : Int) ≤ at2_820 ∧ at2_820 ≤ 3002 := e825 ▸ hW823.1 10
                            have ztk2_821 := tz_b tk2_821
                            have btk2_821 : (0 : Int) ≤ tk2_821 ∧ tk2_821 ≤ 5 := e826 ▸ hW823.1 11
                            have bfk2_822 : (0 : Int) ≤ fk2_822 ∧ fk2_822 ≤ 6 := e827 ▸ hW823.1 16
                            refine .inl ⟨rfl, ?_⟩
                            rcases q830 with ⟨a834, a835, a836, a837⟩ | ⟨a838, a839, a840, a841⟩
                            · have _q : True := trivial
                              refine jx_ld (pc_q := 113) (l_q := L766) (st_q := [.ref 66]) rfl (jl_aloadn gL766_0) ?_
                              refine jx_ar (pc_q := 114) (st_q := [.ref 66, .ref 66]) rfl rfl rfl rfl ?_
                              refine jr_get (pc_q := 117) (i := 15) (v := .int (i32 (op2_726))) rfl rfl (by decide) (rFv_eq (by decide) (show G818 15 = op2_726 from ((hF824.1 15 rfl).trans (e736)))) rfl ?_
                              refine jx_ar (pc_q := 118) (st_q := [.int (i32 (1)), .int (i32 (op2_726)), .ref 66]) rfl rfl rfl rfl ?_
                              refine jx_sub (pc_q := 119) rfl rfl ?_
                              refine jr_put (pc_q := 122) (i := 15) (z := (op2_726 - 1)) rfl rfl (by decide) rfl rfl rfl rfl rfl rfl ?_
                              have hW842 : Wk (uG G818 15 ((op2_726 - 1))) A819 := Wk_g hW823 (show (-2147483648 : Int) ≤ (op2_726 - 1) by omega) (show (op2_726 - 1) ≤ (2147483647 : Int) by omega)
                              have hF843 := Fr_g (z := (op2_726 - 1)) (i := 15) hF831 (by decide)
                              have ec844 : ecn A819 ((uG G818 15 ((op2_726 - 1))) 31) = ec2_729 := ec833
                              refine jx_ld (pc_q := 123) (l_q := L766) (st_q := [.ref 66]) rfl (jl_aloadn gL766_0) ?_
                              refine jx_ar (pc_q := 125) (st_q := [.int (i32 (7)), .ref 66]) rfl rfl rfl rfl ?_
                              refine jx_ld (pc_q := 126) (l_q := L766) (st_q := [.int (i32 (r723)), .int (i32 (7)), .ref 66]) rfl (jl_iloadn gL766_1) ?_
                              refine jx_ar (pc_q := 127) (st_q := [.int (i32 (0)), .int (i32 (r723)), .int (i32 (7)), .ref 66]) rfl rfl rfl rfl ?_
                              refine jx_ar (pc_q := 128) (st_q := [.int (i32 (0)), .int (i32 (0)), .int (i32 (r723)), .int (i32 (7)), .ref 66]) rfl rfl rfl rfl ?_
                              refine jx_ar (pc_q := 129) (st_q := [.int (i32 (0)), .int (i32 (0)), .int (i32 (0)), .int (i32 (r723)), .int (i32 (7)), .ref 66]) rfl rfl rfl rfl ?_
                              refine jx_vr (pc_q := 132) (as := [.int (i32 (7)), .int (i32 (r723)), .int (i32 (0)), .int (i32 (0)), .int (i32 (0))]) (st := []) rfl rfl rfl rfl ⟨rfl, rfl, Nat.le_of_ble_eq_true rfl⟩ rfl rfl (c_node_o (dd := d) (hd := by omega) (hW := hW842) (kind := 7) (a := r723) (b := 0) (c := 0) (e := 0) (nd := nd2_727) (e_nd := show (uG G818 15 ((op2_726 - 1))) 31 = nd2_727 from ((hF824.1 31 rfl).trans (e737))) (ec := ec2_729) (e_ec := show ecn A819 ((uG G818 15 ((op2_726 - 1))) 31) = ec2_729 from ec844) (sy := sy) (e_sy := show (uG G818 15 ((op2_726 - 1))) 19 = sy from ((hF824.1 19 rfl).trans ((hF731.1 19 rfl).trans ((hF561.1 19 rfl).trans ((hF378.1 19 rfl).trans (e_sy))))))  (h_kind := ⟨(by decide), (by decide)⟩) (h_a := ⟨(Int.le_trans (by decide : (-2147483648 : Int) ≤ -2147483648) b733.1), (Int.le_trans b733.2 (by decide : (2147483647 : Int) ≤ 2147483647))⟩) (h_b := ⟨(by decide), (by decide)⟩) (h_c := ⟨(by decide), (by decide)⟩) (h_e := ⟨(by decide), (by decide)⟩)  (p_0 := by omega) (p_1 := by omega) (p_2 := by omega)) (fun o V_q hq => ?_)
                              obtain ⟨G845, A846, nd2_847, ec2_848, rfl, rfl, hW849, hF850, hQ851, e852, e853, p854, p855, p856, p857, -⟩ := hq
                              have hF859 := Fr_tr hF843 hF850 (Fr_sub (by decide)) (Fr_sub (by decide))
                              have hP860 := Pf_tr hP832 hQ851 (by omega)
                              have bnd2_847 : (0 : Int) ≤ nd2_847 ∧ nd2_847 ≤ 6999 := e852 ▸ hW849.1 31
                              refine .inr ⟨_, rfl, ?_⟩
                              refine jx_rt (v := some (.int (i32 (nd2_727)))) rfl rfl rfl rfl rfl rfl ?_
                              have z861 := tz_f (tk2_821)
                              exact ⟨_, _, _, at2_820, fk2_822, (op2_726 - 1), nd2_847, tk2_821, ec2_848, rfl, rfl, hW849, hF859, hP860, by omega, ((hF850.1 10 rfl).trans (e825)), ((hF850.1 16 rfl).trans (e827)), (hF850.1 15 rfl), (e852), ((hF850.1 11 rfl).trans (e826)), e853, by omega, by omega, by omega, by omega, by omega, by omega, by first | exact Or.inr (Or.inl (⟨by omega, by omega, by omega⟩))⟩
                            · have _q : True := trivial
                              exfalso
                              omega
                        · have _q : True := trivial
                          refine jx_ld (pc_q := 102) (l_q := jSto1 [(0, .ref 66)] 1 (.int (i32 (r723)))) (st_q := []) rfl rfl ?_
                          obtain ⟨L862, eL862⟩ : ∃ q, q = jSto1 [(0, .ref 66)] 1 (.int (i32 (r723))) := ⟨_, rfl⟩
                          rw [← eL862]
                          have gL862_0 : jGet L862 0 = some (.ref 66) := eL862 ▸ jg_ne (by decide) (rfl : jGet [(0, .ref 66)] 0 = some (.ref 66)) rfl
                          have gL862_1 : jGet L862 1 = some (.int (i32 (r723))) := eL862 ▸ jg_eq
                          refine jx_ld (pc_q := 103) (l_q := L862) (st_q := [.ref 66]) rfl (jl_aloadn gL862_0) ?_
                          refine jx_ld (pc_q := 104) (l_q := L862) (st_q := [.ref 66, .ref 66]) rfl (jl_aloadn gL862_0) ?_
                          refine jx_ar (pc_q := 106) (st_q := [.int (i32 (41)), .ref 66, .ref 66]) rfl rfl rfl rfl ?_
                          have b863 : (-2147483648 : Int) ≤ G721 13 ∧ G721 13 ≤ 2147483647 := hW730.1 13
                          refine jx_vr (pc_q := 109) (as := [.int (i32 (41))]) (st := [.ref 66]) rfl rfl rfl rfl ⟨rfl, rfl, Nat.le_of_ble_eq_true rfl⟩ rfl rfl (c_is (dd := d) (hd := by omega) (hW := hW730) (k := 41) (tk := tk2_728) (e_tk := show G721 11 = tk2_728 from (e738)) (tn := G721 13) (e_tn := show G721 13 = G721 13 from rfl)  (h_k := ⟨(by decide), (by decide)⟩)  ) (fun o V_q hq => ?_)
                          obtain ⟨r864, rfl, rfl, b865, q866⟩ := hq
                          refine .inr ⟨_, rfl, ?_⟩
                          rcases q866 with ⟨rfl, a867, a868, a869⟩ | rfl
                          · have _q : True := trivial
                            refine jx_vr (pc_q := 112) (as := [.int (i32 (1))]) (st := []) rfl rfl rfl rfl ⟨rfl, rfl, Nat.le_of_ble_eq_true rfl⟩ rfl rfl (c_need (dd := d) (hd := by omega) (hW := hW730) (g := 1) (ln := ln) (e_ln := show G721 9 = ln from ((hF731.1 9 rfl).trans ((hF561.1 9 rfl).trans ((hF378.1 9 rfl).trans (e_ln))))) (le := le) (e_le := show A722 4 (ln).toNat = le from (congrFun ((hF731.2 4 rfl).trans ((hF561.2 4 rfl).trans (hF378.2 4 rfl))) _).trans (e_le)) (at0 := at2_724) (e_at0 := show G721 10 = at2_724 from (e734)) (fk := fk2_725) (e_fk := show G721 16 = fk2_725 from (e735)) (tk0 := tk2_728) (e_tk0 := show G721 11 = tk2_728 from (e738))  (h_g := ⟨(by decide), (by decide)⟩)  (p_0 := by omega)) (fun o V_q hq => ?_)
                            obtain ⟨G870, A871, at2_872, tk2_873, fk2_874, rfl, rfl, hW875, hF876, e877, e878, e879, p880, p881, q882⟩ := hq
                            have hF883 := Fr_tr hF747 hF876 (Fr_sub (by decide)) (Fr_sub (by decide))
                            have hP884 := Pf_f hP748 hF876 (by decide)
                            have sf885 : wE A871 Vs sb (2 * k + 2) (r723) (nd) (nd2_727) := wE_ag (by omega) (Sg_fr hF876 (by decide)) (Ag_fr hF876 (by decide)) a761
                            have sf886 : NdM A871 (nd) (nd2_727) (sy) := NdM_f hF876 (by decide) a763
                            have ec887 : ecn A871 (G870 31) = ec2_729 := (ecn_f (hF876.2 15 rfl) (hF876.1 31 rfl)).trans e739
                            have bat2_872 : (0 : Int) ≤ at2_872 ∧ at2_872 ≤ 3002 := e877 ▸ hW875.1 10
                            have ztk2_873 := tz_b tk2_873
                            have btk2_873 : (0 : Int) ≤ tk2_873 ∧ tk2_873 ≤ 5 := e878 ▸ hW875.1 11
                            have bfk2_874 : (0 : Int) ≤ fk2_874 ∧ fk2_874 ≤ 6 := e879 ▸ hW875.1 16
                            refine .inl ⟨rfl, ?_⟩
                            rcases q882 with ⟨a888, a889, a890, a891⟩ | ⟨a892, a893, a894, a895⟩
                            · have _q : True := trivial
                              refine jx_ld (pc_q := 113) (l_q := L862) (st_q := [.ref 66]) rfl (jl_aloadn gL862_0) ?_
                              refine jx_ar (pc_q := 114) (st_q := [.ref 66, .ref 66]) rfl rfl rfl rfl ?_
                              refine jr_get (pc_q := 117) (i := 15) (v := .int (i32 (op2_726))) rfl rfl (by decide) (rFv_eq (by decide) (show G870 15 = op2_726 from ((hF876.1 15 rfl).trans (e736)))) rfl ?_
                              refine jx_ar (pc_q := 118) (st_q := [.int (i32 (1)), .int (i32 (op2_726)), .ref 66]) rfl rfl rfl rfl ?_
                              refine jx_sub (pc_q := 119) rfl rfl ?_
                              refine jr_put (pc_q := 122) (i := 15) (z := (op2_726 - 1)) rfl rfl (by decide) rfl rfl rfl rfl rfl rfl ?_
                              have hW896 : Wk (uG G870 15 ((op2_726 - 1))) A871 := Wk_g hW875 (show (-2147483648 : Int) ≤ (op2_726 - 1) by omega) (show (op2_726 - 1) ≤ (2147483647 : Int) by omega)
                              have hF897 := Fr_g (z := (op2_726 - 1)) (i := 15) hF883 (by decide)
                              have ec898 : ecn A871 ((uG G870 15 ((op2_726 - 1))) 31) = ec2_729 := ec887
                              refine jx_ld (pc_q := 123) (l_q := L862) (st_q := [.ref 66]) rfl (jl_aloadn gL862_0) ?_
                              refine jx_ar (pc_q := 125) (st_q := [.int (i32 (7)), .ref 66]) rfl rfl rfl rfl ?_
                              refine jx_ld (pc_q := 126) (l_q := L862) (st_q := [.int (i32 (r723)), .int (i32 (7)), .ref 66]) rfl (jl_iloadn gL862_1) ?_
                              refine jx_ar (pc_q := 127) (st_q := [.int (i32 (0)), .int (i32 (r723)), .int (i32 (7)), .ref 66]) rfl rfl rfl rfl ?_
                              refine jx_ar (pc_q := 128) (st_q := [.int (i32 (0)), .int (i32 (0)), .int (i32 (r723)), .int (i32 (7)), .ref 66]) rfl rfl rfl rfl ?_
                              refine jx_ar (pc_q := 129) (st_q := [.int (i32 (0)), .int (i32 (0)), .int (i32 (0)), .int (i32 (r723)), .int (i32 (7)), .ref 66]) rfl rfl rfl rfl ?_
                              refine jx_vr (pc_q := 132) (as := [.int (i32 (7)), .int (i32 (r723)), .int (i32 (0)), .int (i32 (0)), .int (i32 (0))]) (st := []) rfl rfl rfl rfl ⟨rfl, rfl, Nat.le_of_ble_eq_true rfl⟩ rfl rfl (c_node_o (dd := d) (hd := by omega) (hW := hW896) (kind := 7) (a := r723) (b := 0) (c := 0) (e := 0) (nd := nd2_727) (e_nd := show (uG G870 15 ((op2_726 - 1))) 31 = nd2_727 from ((hF876.1 31 rfl).trans (e737))) (ec := ec2_729) (e_ec := show ecn A871 ((uG G870 15 ((op2_726 - 1))) 31) = ec2_729 from ec898) (sy := sy) (e_sy := show (uG G870 15 ((op2_726 - 1))) 19 = sy from ((hF876.1 19 rfl).trans ((hF731.1 19 rfl).trans ((hF561.1 19 rfl).trans ((hF378.1 19 rfl).trans (e_sy))))))  (h_kind := ⟨(by decide), (by decide)⟩) (h_a := ⟨(Int.le_trans (by decide : (-2147483648 : Int) ≤ -2147483648) b733.1), (Int.le_trans b733.2 (by decide : (2147483647 : Int) ≤ 2147483647))⟩) (h_b := ⟨(by decide), (by decide)⟩) (h_c := ⟨(by decide), (by decide)⟩) (h_e := ⟨(by decide), (by decide)⟩)  (p_0 := by omega) (p_1 := by omega) (p_2 := by omega)) (fun o V_q hq => ?_)
                              obtain ⟨G899, A900, nd2_901, ec2_902, rfl, rfl, hW903, hF904, hQ905, e906, e907, p908, p909, p910, p911, -⟩ := hq
                              have hF913 := Fr_tr hF897 hF904 (Fr_sub (by decide)) (Fr_sub (by decide))
                              have hP914 := Pf_tr hP884 hQ905 (by omega)
                              have sf915 : wE A900 Vs sb (2 * k + 2) (r723) (nd) (nd2_727) := wE_ag (by omega) (Sg_fr hF904 (by decide)) (Ag_pf hQ905 (by omega)) sf885
                              have sf916 : NdM A900 (nd) (nd2_727) (sy) := NdM_pf hQ905 (by omega) (by omega) sf886
                              have bnd2_901 : (0 : Int) ≤ nd2_901 ∧ nd2_901 ≤ 6999 := e906 ▸ hW903.1 31
                              refine .inr ⟨_, rfl, ?_⟩
                              refine jx_rt (v := some (.int (i32 (nd2_727)))) rfl rfl rfl rfl rfl rfl ?_
                              have z917 := tz_f (tk2_873)
                              exact ⟨_, _, _, at2_872, fk2_874, (op2_726 - 1), nd2_901, tk2_873, ec2_902, rfl, rfl, hW903, hF913, hP914, by omega, ((hF904.1 10 rfl).trans (e877)), ((hF904.1 16 rfl).trans (e879)), (hF904.1 15 rfl), (e906), ((hF904.1 11 rfl).trans (e878)), e907, by omega, by omega, by omega, by omega, by omega, by omega, by first | exact Or.inr (Or.inl (⟨by omega, by omega, by omega⟩))⟩
                            · have _q : True := trivial
                              have pz918 : at2_724 + tz tk2_873 ≤ at2_872 := by omega
                              refine jx_ld (pc_q := 113) (l_q := L862) (st_q := [.ref 66]) rfl (jl_aloadn gL862_0) ?_
                              refine jx_ar (pc_q := 114) (st_q := [.ref 66, .ref 66]) rfl rfl rfl rfl ?_
                              refine jr_get (pc_q := 117) (i := 15) (v := .int (i32 (op2_726))) rfl rfl (by decide) (rFv_eq (by decide) (show G870 15 = op2_726 from ((hF876.1 15 rfl).trans (e736)))) rfl ?_
                              refine jx_ar (pc_q := 118) (st_q := [.int (i32 (1)), .int (i32 (op2_726)), .ref 66]) rfl rfl rfl rfl ?_
                              refine jx_sub (pc_q := 119) rfl rfl ?_
                              refine jr_put (pc_q := 122) (i := 15) (z := (op2_726 - 1)) rfl rfl (by decide) rfl rfl rfl rfl rfl rfl ?_
                              have hW919 : Wk (uG G870 15 ((op2_726 - 1))) A871 := Wk_g hW875 (show (-2147483648 : Int) ≤ (op2_726 - 1) by omega) (show (op2_726 - 1) ≤ (2147483647 : Int) by omega)
                              have hF920 := Fr_g (z := (op2_726 - 1)) (i := 15) hF883 (by decide)
                              have ec921 : ecn A871 ((uG G870 15 ((op2_726 - 1))) 31) = ec2_729 := ec887
                              refine jx_ld (pc_q := 123) (l_q := L862) (st_q := [.ref 66]) rfl (jl_aloadn gL862_0) ?_
                              refine jx_ar (pc_q := 125) (st_q := [.int (i32 (7)), .ref 66]) rfl rfl rfl rfl ?_
                              refine jx_ld (pc_q := 126) (l_q := L862) (st_q := [.int (i32 (r723)), .int (i32 (7)), .ref 66]) rfl (jl_iloadn gL862_1) ?_
                              refine jx_ar (pc_q := 127) (st_q := [.int (i32 (0)), .int (i32 (r723)), .int (i32 (7)), .ref 66]) rfl rfl rfl rfl ?_
                              refine jx_ar (pc_q := 128) (st_q := [.int (i32 (0)), .int (i32 (0)), .int (i32 (r723)), .int (i32 (7)), .ref 66]) rfl rfl rfl rfl ?_
                              refine jx_ar (pc_q := 129) (st_q := [.int (i32 (0)), .int (i32 (0)), .int (i32 (0)), .int (i32 (r723)), .int (i32 (7)), .ref 66]) rfl rfl rfl rfl ?_
                              refine jx_vr (pc_q := 132) (as := [.int (i32 (7)), .int (i32 (r723)), .int (i32 (0)), .int (i32 (0)), .int (i32 (0))]) (st := []) rfl rfl rfl rfl ⟨rfl, rfl, Nat.le_of_ble_eq_true rfl⟩ rfl rfl (c_node_o (dd := d) (hd := by omega) (hW := hW919) (kind := 7) (a := r723) (b := 0) (c := 0) (e := 0) (nd := nd2_727) (e_nd := show (uG G870 15 ((op2_726 - 1))) 31 = nd2_727 from ((hF876.1 31 rfl).trans (e737))) (ec := ec2_729) (e_ec := show ecn A871 ((uG G870 15 ((op2_726 - 1))) 31) = ec2_729 from ec921) (sy := sy) (e_sy := show (uG G870 15 ((op2_726 - 1))) 19 = sy from ((hF876.1 19 rfl).trans ((hF731.1 19 rfl).trans ((hF561.1 19 rfl).trans ((hF378.1 19 rfl).trans (e_sy))))))  (h_kind := ⟨(by decide), (by decide)⟩) (h_a := ⟨(Int.le_trans (by decide : (-2147483648 : Int) ≤ -2147483648) b733.1), (Int.le_trans b733.2 (by decide : (2147483647 : Int) ≤ 2147483647))⟩) (h_b := ⟨(by decide), (by decide)⟩) (h_c := ⟨(by decide), (by decide)⟩) (h_e := ⟨(by decide), (by decide)⟩)  (p_0 := by omega) (p_1 := by omega) (p_2 := by omega)) (fun o V_q hq => ?_)
                              obtain ⟨G922, A923, nd2_924, ec2_925, rfl, rfl, hW926, hF927, hQ928, e929, e930, p931, p932, p933, p934, -⟩ := hq
                              have hF936 := Fr_tr hF920 hF927 (Fr_sub (by decide)) (Fr_sub (by decide))
                              have hP937 := Pf_tr hP884 hQ928 (by omega)
                              have sf938 : wE A923 Vs sb (2 * k + 2) (r723) (nd) (nd2_727) := wE_ag (by omega) (Sg_fr hF927 (by decide)) (Ag_pf hQ928 (by omega)) sf885
                              have sf939 : NdM A923 (nd) (nd2_727) (sy) := NdM_pf hQ928 (by omega) (by omega) sf886
                              have bnd2_924 : (0 : Int) ≤ nd2_924 ∧ nd2_924 ≤ 6999 := e929 ▸ hW926.1 31
                              refine .inr ⟨_, rfl, ?_⟩
                              refine jx_rt (v := some (.int (i32 (nd2_727)))) rfl rfl rfl rfl rfl rfl ?_
                              have z940 := tz_f (tk2_873)
                              exact ⟨_, _, _, at2_872, fk2_874, (op2_726 - 1), nd2_924, tk2_873, ec2_925, rfl, rfl, hW926, hF936, hP937, by omega, ((hF927.1 10 rfl).trans (e877)), ((hF927.1 16 rfl).trans (e879)), (hF927.1 15 rfl), (e929), ((hF927.1 11 rfl).trans (e878)), e930, by omega, by omega, by omega, by omega, by omega, by omega, by first | exact Or.inr (Or.inr ((⟨by omega, by omega, by omega, (wE_one p933 (by omega) (by omega) (by omega) (wE_mono (by omega) (by omega) (by omega) sf938)), by omega, (NdM_w (NdM_app (sy := sy) sf939 p934 (by omega) (by omega) (by omega)) (by omega) (by omega) (by omega)), by omega, by omega⟩)))⟩
                          · have _q : True := trivial
                            refine jx_vr (pc_q := 112) (as := [.int (i32 (0))]) (st := []) rfl rfl rfl rfl ⟨rfl, rfl, Nat.le_of_ble_eq_true rfl⟩ rfl rfl (c_need (dd := d) (hd := by omega) (hW := hW730) (g := 0) (ln := ln) (e_ln := show G721 9 = ln from ((hF731.1 9 rfl).trans ((hF561.1 9 rfl).trans ((hF378.1 9 rfl).trans (e_ln))))) (le := le) (e_le := show A722 4 (ln).toNat = le from (congrFun ((hF731.2 4 rfl).trans ((hF561.2 4 rfl).trans (hF378.2 4 rfl))) _).trans (e_le)) (at0 := at2_724) (e_at0 := show G721 10 = at2_724 from (e734)) (fk := fk2_725) (e_fk := show G721 16 = fk2_725 from (e735)) (tk0 := tk2_728) (e_tk0 := show G721 11 = tk2_728 from (e738))  (h_g := ⟨(by decide), (by decide)⟩)  (p_0 := by omega)) (fun o V_q hq => ?_)
                            obtain ⟨G941, A942, at2_943, tk2_944, fk2_945, rfl, rfl, hW946, hF947, e948, e949, e950, p951, p952, q953⟩ := hq
                            have hF954 := Fr_tr hF747 hF947 (Fr_sub (by decide)) (Fr_sub (by decide))
                            have hP955 := Pf_f hP748 hF947 (by decide)
                            have sf956 : wE A942 Vs sb (2 * k + 2) (r723) (nd) (nd2_727) := wE_ag (by omega) (Sg_fr hF947 (by decide)) (Ag_fr hF947 (by decide)) a761
                            have sf957 : NdM A942 (nd) (nd2_727) (sy) := NdM_f hF947 (by decide) a763
                            have ec958 : ecn A942 (G941 31) = ec2_729 := (ecn_f (hF947.2 15 rfl) (hF947.1 31 rfl)).trans e739
                            have bat2_943 : (0 : Int) ≤ at2_943 ∧ at2_943 ≤ 3002 := e948 ▸ hW946.1 10
                            have ztk2_944 := tz_b tk2_944
                            have btk2_944 : (0 : Int) ≤ tk2_944 ∧ tk2_944 ≤ 5 := e949 ▸ hW946.1 11
                            have bfk2_945 : (0 : Int) ≤ fk2_945 ∧ fk2_945 ≤ 6 := e950 ▸ hW946.1 16
                            refine .inl ⟨rfl, ?_⟩
                            rcases q953 with ⟨a959, a960, a961, a962⟩ | ⟨a963, a964, a965, a966⟩
                            · have _q : True := trivial
                              refine jx_ld (pc_q := 113) (l_q := L862) (st_q := [.ref 66]) rfl (jl_aloadn gL862_0) ?_
                              refine jx_ar (pc_q := 114) (st_q := [.ref 66, .ref 66]) rfl rfl rfl rfl ?_
                              refine jr_get (pc_q := 117) (i := 15) (v := .int (i32 (op2_726))) rfl rfl (by decide) (rFv_eq (by decide) (show G941 15 = op2_726 from ((hF947.1 15 rfl).trans (e736)))) rfl ?_
                              refine jx_ar (pc_q := 118) (st_q := [.int (i32 (1)), .int (i32 (op2_726)), .ref 66]) rfl rfl rfl rfl ?_
                              refine jx_sub (pc_q := 119) rfl rfl ?_
                              refine jr_put (pc_q := 122) (i := 15) (z := (op2_726 - 1)) rfl rfl (by decide) rfl rfl rfl rfl rfl rfl ?_
                              have hW967 : Wk (uG G941 15 ((op2_726 - 1))) A942 := Wk_g hW946 (show (-2147483648 : Int) ≤ (op2_726 - 1) by omega) (show (op2_726 - 1) ≤ (2147483647 : Int) by omega)
                              have hF968 := Fr_g (z := (op2_726 - 1)) (i := 15) hF954 (by decide)
                              have ec969 : ecn A942 ((uG G941 15 ((op2_726 - 1))) 31) = ec2_729 := ec958
                              refine jx_ld (pc_q := 123) (l_q := L862) (st_q := [.ref 66]) rfl (jl_aloadn gL862_0) ?_
                              refine jx_ar (pc_q := 125) (st_q := [.int (i32 (7)), .ref 66]) rfl rfl rfl rfl ?_
                              refine jx_ld (pc_q := 126) (l_q := L862) (st_q := [.int (i32 (r723)), .int (i32 (7)), .ref 66]) rfl (jl_iloadn gL862_1) ?_
                              refine jx_ar (pc_q := 127) (st_q := [.int (i32 (0)), .int (i32 (r723)), .int (i32 (7)), .ref 66]) rfl rfl rfl rfl ?_
                              refine jx_ar (pc_q := 128) (st_q := [.int (i32 (0)), .int (i32 (0)), .int (i32 (r723)), .int (i32 (7)), .ref 66]) rfl rfl rfl rfl ?_
                              refine jx_ar (pc_q := 129) (st_q := [.int (i32 (0)), .int (i32 (0)), .int (i32 (0)), .int (i32 (r723)), .int (i32 (7)), .ref 66]) rfl rfl rfl rfl ?_
                              refine jx_vr (pc_q := 132) (as := [.int (i32 (7)), .int (i32 (r723)), .int (i32 (0)), .int (i32 (0)), .int (i32 (0))]) (st := []) rfl rfl rfl rfl ⟨rfl, rfl, Nat.le_of_ble_eq_true rfl⟩ rfl rfl (c_node_o (dd := d) (hd := by omega) (hW := hW967) (kind := 7) (a := r723) (b := 0) (c := 0) (e := 0) (nd := nd2_727) (e_nd := show (uG G941 15 ((op2_726 - 1))) 31 = nd2_727 from ((hF947.1 31 rfl).trans (e737))) (ec := ec2_729) (e_ec := show ecn A942 ((uG G941 15 ((op2_726 - 1))) 31) = ec2_729 from ec969) (sy := sy) (e_sy := show (uG G941 15 ((op2_726 - 1))) 19 = sy from ((hF947.1 19 rfl).trans ((hF731.1 19 rfl).trans ((hF561.1 19 rfl).trans ((hF378.1 19 rfl).trans (e_sy))))))  (h_kind := ⟨(by decide), (by decide)⟩) (h_a := ⟨(Int.le_trans (by decide : (-2147483648 : Int) ≤ -2147483648) b733.1), (Int.le_trans b733.2 (by decide : (2147483647 : Int) ≤ 2147483647))⟩) (h_b := ⟨(by decide), (by decide)⟩) (h_c := ⟨(by decide), (by decide)⟩) (h_e := ⟨(by decide), (by decide)⟩)  (p_0 := by omega) (p_1 := by omega) (p_2 := by omega)) (fun o V_q hq => ?_)
                              obtain ⟨G970, A971, nd2_972, ec2_973, rfl, rfl, hW974, hF975, hQ976, e977, e978, p979, p980, p981, p982, -⟩ := hq
                              have hF984 := Fr_tr hF968 hF975 (Fr_sub (by decide)) (Fr_sub (by decide))
                              have hP985 := Pf_tr hP955 hQ976 (by omega)
                              have sf986 : wE A971 Vs sb (2 * k + 2) (r723) (nd) (nd2_727) := wE_ag (by omega) (Sg_fr hF975 (by decide)) (Ag_pf hQ976 (by omega)) sf956
                              have sf987 : NdM A971 (nd) (nd2_727) (sy) := NdM_pf hQ976 (by omega) (by omega) sf957
                              have bnd2_972 : (0 : Int) ≤ nd2_972 ∧ nd2_972 ≤ 6999 := e977 ▸ hW974.1 31
                              refine .inr ⟨_, rfl, ?_⟩
                              refine jx_rt (v := some (.int (i32 (nd2_727)))) rfl rfl rfl rfl rfl rfl ?_
                              have z988 := tz_f (tk2_944)
                              exact ⟨_, _, _, at2_943, fk2_945, (op2_726 - 1), nd2_972, tk2_944, ec2_973, rfl, rfl, hW974, hF984, hP985, by omega, ((hF975.1 10 rfl).trans (e948)), ((hF975.1 16 rfl).trans (e950)), (hF975.1 15 rfl), (e977), ((hF975.1 11 rfl).trans (e949)), e978, by omega, by omega, by omega, by omega, by omega, by omega, by first | exact Or.inr (Or.inl (⟨by omega, by omega, by omega⟩))⟩
                            · have _q : True := trivial
                              exfalso
                              omega
                · have _q : True := trivial
                  refine jx_if_eq (pc_q := 88) (tg := 133) rfl rfl rfl (by decide) (by decide) (fun h989 => ?_) (fun h989 => ?_)
                  · have _q := h989
                    refine jx_ld (pc_q := 134) (l_q := [(0, .ref 66)]) (st_q := [.ref 66]) rfl (jl_aloadn rfl) ?_
                    have z990 := tz_f (tk0)
                    refine jr_get (pc_q := 137) (i := 11) (v := .int (i32 (tk0))) rfl rfl (by decide) (rFv_eq (by decide) (show G 11 = tk0 from (e_tk0))) rfl ?_
                    refine jx_ar (pc_q := 138) (st_q := [.int (i32 (1)), .int (i32 (tk0))]) rfl rfl rfl rfl ?_
                    refine jx_icmp_eq (pc_q := 141) (tg := 152) rfl rfl rfl (Int.le_trans (by decide : (-2147483648 : Int) ≤ 0) b_tk0.1) (Int.le_trans b_tk0.2 (by decide : (5 : Int) ≤ 2147483647)) (by decide) (by decide) (fun h991 => ?_) (fun h991 => ?_)
                    · have _q := h991
                      refine jx_ld (pc_q := 153) (l_q := [(0, .ref 66)]) (st_q := [.ref 66]) rfl (jl_aloadn rfl) ?_
                      have b992 : (-3000 : Int) ≤ G 12 ∧ G 12 ≤ 3002 := hW.1 12
                      refine jr_get (pc_q := 156) (i := 12) (v := .int (i32 (G 12))) rfl rfl (by decide) rfl rfl ?_
                      refine jx_ld (pc_q := 157) (l_q := jSto1 [(0, .ref 66)] 1 (.int (i32 (G 12)))) (st_q := []) rfl rfl ?_
                      obtain ⟨L993, eL993⟩ : ∃ q, q = jSto1 [(0, .ref 66)] 1 (.int (i32 (G 12))) := ⟨_, rfl⟩
                      rw [← eL993]
                      have gL993_0 : jGet L993 0 = some (.ref 66) := eL993 ▸ jg_ne (by decide) (rfl : jGet [(0, .ref 66)] 0 = some (.ref 66)) rfl
                      have gL993_1 : jGet L993 1 = some (.int (i32 (G 12))) := eL993 ▸ jg_eq
                      refine jx_ld (pc_q := 158) (l_q := L993) (st_q := [.ref 66]) rfl (jl_aloadn gL993_0) ?_
                      refine jx_vr (pc_q := 161) (as := []) (st := []) rfl rfl rfl rfl ⟨rfl, rfl, Nat.le_of_ble_eq_true rfl⟩ rfl rfl (c_lookUp (dd := d) (hd := by omega) (hW := hW)  (fk := fk) (e_fk := show G 16 = fk from (e_fk)) (i_SV := (SV_ext (rfl) (rfl) i_SV))   ) (fun o V_q hq => ?_)
                      obtain ⟨G994, A995, r996, fk2_997, rfl, rfl, hW998, hF999, b1000, e1001, q1002⟩ := hq
                      have hF1003 := Fr_tr hF0 hF999 (Fr_sub (by decide)) (Fr_sub (by decide))
                      have hP1004 := Pf_f hP0 hF999 (by decide)
                      have ec1005 : ecn A995 (G994 31) = ec := (ecn_f (hF999.2 15 rfl) (hF999.1 31 rfl)).trans e_ec
                      have bfk2_997 : (0 : Int) ≤ fk2_997 ∧ fk2_997 ≤ 6 := e1001 ▸ hW998.1 16
                      refine .inr ⟨_, rfl, ?_⟩
                      rcases q1002 with ⟨a1006, a1007⟩ | ⟨a1008, a1009, a1010, a1011⟩
                      · have _q : True := trivial
                        refine jx_ld (pc_q := 162) (l_q := jSto1 L993 2 (.int (i32 (r996)))) (st_q := []) rfl rfl ?_
                        obtain ⟨L1012, eL1012⟩ : ∃ q, q = jSto1 L993 2 (.int (i32 (r996))) := ⟨_, rfl⟩
                        rw [← eL1012]
                        have gL1012_0 : jGet L1012 0 = some (.ref 66) := eL1012 ▸ jg_ne (by decide) gL993_0 rfl
                        have gL1012_1 : jGet L1012 1 = some (.int (i32 (G 12))) := eL1012 ▸ jg_ne (by decide) gL993_1 rfl
                        have gL1012_2 : jGet L1012 2 = some (.int (i32 (r996))) := eL1012 ▸ jg_eq
                        refine jx_ld (pc_q := 163) (l_q := L1012) (st_q := [.ref 66]) rfl (jl_aloadn gL1012_0) ?_
                        refine jx_vr (pc_q := 166) (as := []) (st := []) rfl rfl rfl rfl ⟨rfl, rfl, Nat.le_of_ble_eq_true rfl⟩ rfl rfl (c_bad (dd := d) (hd := by omega) (hW := hW998)  (fk := fk2_997) (e_fk := show G994 16 = fk2_997 from (e1001))    ) (fun o V_q hq => ?_)
                        obtain ⟨r1013, rfl, rfl, b1014, q1015⟩ := hq
                        refine .inr ⟨_, rfl, ?_⟩
                        rcases q1015 with ⟨rfl, a1016⟩ | ⟨rfl, a1017⟩
                        · have _q : True := trivial
                          refine jx_if_eq (pc_q := 169) (tg := 171) rfl rfl rfl (by decide) (by decide) (fun h1018 => ?_) (fun h1018 => ?_)
                          · have _q := h1018
                            exact absurd h1018 (by omega)
                          · have _q := h1018
                            refine jx_ar (pc_q := 170) (st_q := [.int (i32 (0))]) rfl rfl rfl rfl ?_
                            refine jx_rt (v := some (.int (i32 (0)))) rfl rfl rfl rfl rfl rfl ?_
                            have z1019 := tz_f (tk0)
                            exact ⟨_, _, _, at0, fk2_997, op0, nd, tk0, ec, rfl, rfl, hW998, hF1003, hP1004, by omega, ((hF999.1 10 rfl).trans (e_at0)), (e1001), ((hF999.1 15 rfl).trans (e_op0)), ((hF999.1 31 rfl).trans (e_nd)), ((hF999.1 11 rfl).trans (e_tk0)), ec1005, by omega, by omega, by omega, by omega, by omega, by omega, by first | exact Or.inr (Or.inl (⟨by omega, by omega, by omega⟩))⟩
                        · have _q : True := trivial
                          exfalso
                          omega
                      · have _q : True := trivial
                        refine jx_ld (pc_q := 162) (l_q := jSto1 L993 2 (.int (i32 (r996)))) (st_q := []) rfl rfl ?_
                        obtain ⟨L1020, eL1020⟩ : ∃ q, q = jSto1 L993 2 (.int (i32 (r996))) := ⟨_, rfl⟩
                        rw [← eL1020]
                        have gL1020_0 : jGet L1020 0 = some (.ref 66) := eL1020 ▸ jg_ne (by decide) gL993_0 rfl
                        have gL1020_1 : jGet L1020 1 = some (.int (i32 (G 12))) := eL1020 ▸ jg_ne (by decide) gL993_1 rfl
                        have gL1020_2 : jGet L1020 2 = some (.int (i32 (r996))) := eL1020 ▸ jg_eq
                        refine jx_ld (pc_q := 163) (l_q := L1020) (st_q := [.ref 66]) rfl (jl_aloadn gL1020_0) ?_
                        refine jx_vr (pc_q := 166) (as := []) (st := []) rfl rfl rfl rfl ⟨rfl, rfl, Nat.le_of_ble_eq_true rfl⟩ rfl rfl (c_bad (dd := d) (hd := by omega) (hW := hW998)  (fk := fk2_997) (e_fk := show G994 16 = fk2_997 from (e1001))    ) (fun o V_q hq => ?_)
                        obtain ⟨r1021, rfl, rfl, b1022, q1023⟩ := hq
                        refine .inr ⟨_, rfl, ?_⟩
                        rcases q1023 with ⟨rfl, a1024⟩ | ⟨rfl, a1025⟩
                        · have _q : True := trivial
                          exfalso
                          omega
                        · have _q : True := trivial
                          refine jx_if_eq (pc_q := 169) (tg := 171) rfl rfl rfl (by decide) (by decide) (fun h1026 => ?_) (fun h1026 => ?_)
                          · have _q := h1026
                            refine jx_ld (pc_q := 172) (l_q := L1020) (st_q := [.ref 66]) rfl (jl_aloadn gL1020_0) ?_
                            refine jx_vr (pc_q := 175) (as := []) (st := []) rfl rfl rfl rfl ⟨rfl, rfl, Nat.le_of_ble_eq_true rfl⟩ rfl rfl (c_next (dd := d) (hd := by omega) (hW := hW998)  (ln := ln) (e_ln := show G994 9 = ln from ((hF999.1 9 rfl).trans (e_ln))) (le := le) (e_le := show A995 4 (ln).toNat = le from (congrFun (hF999.2 4 rfl) _).trans (e_le)) (at0 := at0) (e_at0 := show G994 10 = at0 from ((hF999.1 10 rfl).trans (e_at0)))    (p_0 := by omega)) (fun o V_q hq => ?_)
                            obtain ⟨G1027, A1028, at2_1029, tk2_1030, rfl, rfl, hW1031, hF1032, e1033, e1034, p1035, p1036, p1037, -⟩ := hq
                            have hF1039 := Fr_tr hF1003 hF1032 (Fr_sub (by decide)) (Fr_sub (by decide))
                            have hP1040 := Pf_f hP1004 hF1032 (by decide)
                            have ec1041 : ecn A1028 (G1027 31) = ec := (ecn_f (hF1032.2 15 rfl) (hF1032.1 31 rfl)).trans ec1005
                            have bat2_1029 : (0 : Int) ≤ at2_1029 ∧ at2_1029 ≤ 3002 := e1033 ▸ hW1031.1 10
                            have ztk2_1030 := tz_b tk2_1030
                            have btk2_1030 : (0 : Int) ≤ tk2_1030 ∧ tk2_1030 ≤ 5 := e1034 ▸ hW1031.1 11
                            refine .inl ⟨rfl, ?_⟩
                            have pz1042 : at0 + tz tk2_1030 ≤ at2_1029 := by omega
                            refine jx_ld (pc_q := 176) (l_q := L1020) (st_q := [.ref 66]) rfl (jl_aloadn gL1020_0) ?_
                            refine jx_ld (pc_q := 177) (l_q := L1020) (st_q := [.int (i32 (r996)), .ref 66]) rfl (jl_iloadn gL1020_2) ?_
                            refine jx_ld (pc_q := 178) (l_q := L1020) (st_q := [.int (i32 (G 12)), .int (i32 (r996)), .ref 66]) rfl (jl_iloadn gL1020_1) ?_
                            refine jx_vr (pc_q := 181) (as := [.int (i32 (r996)), .int (i32 (G 12))]) (st := []) rfl rfl rfl rfl ⟨rfl, rfl, Nat.le_of_ble_eq_true rfl⟩ rfl rfl (c_readValue_w (dd := d) (hE := hE) (hd := by omega) (hW := hW1031) (s := r996) (place := G 12) (ln := ln) (e_ln := show G1027 9 = ln from ((hF1032.1 9 rfl).trans ((hF999.1 9 rfl).trans (e_ln)))) (le := le) (e_le := show A1028 4 (ln).toNat = le from (congrFun ((hF1032.2 4 rfl).trans (hF999.2 4 rfl)) _).trans (e_le)) (at0 := at2_1029) (e_at0 := show G1027 10 = at2_1029 from (e1033)) (fk := fk2_997) (e_fk := show G1027 16 = fk2_997 from ((hF1032.1 16 rfl).trans (e1001))) (op0 := op0) (e_op0 := show G1027 15 = op0 from ((hF1032.1 15 rfl).trans ((hF999.1 15 rfl).trans (e_op0)))) (nd := nd) (e_nd := show G1027 31 = nd from ((hF1032.1 31 rfl).trans ((hF999.1 31 rfl).trans (e_nd)))) (tk0 := tk2_1030) (e_tk0 := show G1027 11 = tk2_1030 from (e1034)) (ec := ec) (e_ec := show ecn A1028 (G1027 31) = ec from ec1041) (sy := sy) (e_sy := show G1027 19 = sy from ((hF1032.1 19 rfl).trans ((hF999.1 19 rfl).trans (e_sy)))) (i_SV := (SV_ext (((hF1032.1 29 rfl).trans (hF999.1 29 rfl))) (((hF1032.2 14 rfl).trans (hF999.2 14 rfl))) i_SV)) (h_s := ⟨(Int.le_trans (by decide : (-2147483648 : Int) ≤ -2147483648) b1000.1), (Int.le_trans b1000.2 (by decide : (2147483647 : Int) ≤ 2147483647))⟩) (h_place := ⟨(Int.le_trans (by decide : (-2147483648 : Int) ≤ -3000) b992.1), (Int.le_trans b992.2 (by decide : (3002 : Int) ≤ 2147483647))⟩)  (p_0 := by omega) (p_1 := by omega) (p_2 := by omega) (p_3 := by omega) (p_4 := by omega) (p_5 := by omega) (p_6 := by omega) (p_7 := by omega) (p_8 := by omega) (p_9 := by omega) (p_10 := a1011)) (fun o V_q hq => ?_)
                            obtain ⟨G1043, A1044, r1045, at2_1046, fk2_1047, op2_1048, nd2_1049, tk2_1050, ec2_1051, rfl, rfl, hW1052, hF1053, hQ1054, b1055, e1056, e1057, e1058, e1059, e1060, e1061, p1062, p1063, p1064, p1065, p1066, p1067, q1068⟩ := hq
                            have hF1069 := Fr_tr hF1039 hF1053 (Fr_sub (by decide)) (Fr_sub (by decide))
                            have hP1070 := Pf_tr hP1040 hQ1054 (by omega)
                            have bat2_1046 : (0 : Int) ≤ at2_1046 ∧ at2_1046 ≤ 3002 := e1056 ▸ hW1052.1 10
                            have bfk2_1047 : (0 : Int) ≤ fk2_1047 ∧ fk2_1047 ≤ 6 := e1057 ▸ hW1052.1 16
                            have bop2_1048 : (-2147483648 : Int) ≤ op2_1048 ∧ op2_1048 ≤ 2147483647 := e1058 ▸ hW1052.1 15
                            have bnd2_1049 : (0 : Int) ≤ nd2_1049 ∧ nd2_1049 ≤ 6999 := e1059 ▸ hW1052.1 31
                            have ztk2_1050 := tz_b tk2_1050
                            have btk2_1050 : (0 : Int) ≤ tk2_1050 ∧ tk2_1050 ≤ 5 := e1060 ▸ hW1052.1 11
                            refine .inr ⟨_, rfl, ?_⟩
                            rcases q1068 with ⟨a1071, a1072, a1073⟩ | ⟨a1074, a1075, a1076, a1077, a1078, a1079, a1080⟩
                            · have _q : True := trivial
                              refine jx_rt (v := some (.int (i32 (r1045)))) rfl rfl rfl rfl rfl rfl ?_
                              have z1081 := tz_f (tk2_1050)
                              exact ⟨_, _, _, at2_1046, fk2_1047, op2_1048, nd2_1049, tk2_1050, ec2_1051, rfl, rfl, hW1052, hF1069, hP1070, by omega, (e1056), (e1057), (e1058), (e1059), (e1060), e1061, by omega, by omega, by omega, by omega, by omega, by omega, by first | exact Or.inr (Or.inl (⟨by omega, by omega, by omega⟩))⟩
                            · have _q : True := trivial
                              refine jx_rt (v := some (.int (i32 (r1045)))) rfl rfl rfl rfl rfl rfl ?_
                              have z1082 := tz_f (tk2_1050)
                              exact ⟨_, _, _, at2_1046, fk2_1047, op2_1048, nd2_1049, tk2_1050, ec2_1051, rfl, rfl, hW1052, hF1069, hP1070, by omega, (e1056), (e1057), (e1058), (e1059), (e1060), e1061, by omega, by omega, by omega, by omega, by omega, by omega, by first | exact Or.inr (Or.inr ((⟨by omega, by omega, by omega, a1077, by omega, a1079, by omega, by omega⟩)))⟩
                          · have _q := h1026
                            exact absurd h1026 (by omega)
                    · have _q := h991
                      refine jx_ld (pc_q := 142) (l_q := [(0, .ref 66)]) (st_q := [.ref 66]) rfl (jl_aloadn rfl) ?_
                      refine jx_ar (pc_q := 143) (st_q := [.int (i32 (1)), .ref 66]) rfl rfl rfl rfl ?_
                      refine jx_ld (pc_q := 144) (l_q := [(0, .ref 66)]) (st_q := [.ref 66, .int (i32 (1)), .ref 66]) rfl (jl_aloadn rfl) ?_
                      have b1083 : (-3000 : Int) ≤ G 12 ∧ G 12 ≤ 3002 := hW.1 12
                      refine jr_get (pc_q := 147) (i := 12) (v := .int (i32 (G 12))) rfl rfl (by decide) rfl rfl ?_
                      refine jx_vr (pc_q := 150) (as := [.int (i32 (1)), .int (i32 (G 12))]) (st := []) rfl rfl rfl rfl ⟨rfl, rfl, Nat.le_of_ble_eq_true rfl⟩ rfl rfl (c_fail (dd := d) (hd := by omega) (hW := hW) (kind := 1) (place := G 12) (fk := fk) (e_fk := show G 16 = fk from (e_fk))  (h_kind := ⟨(by decide), (by decide)⟩) (h_place := ⟨(Int.le_trans (by decide : (-2147483648 : Int) ≤ -3000) b1083.1), (Int.le_trans b1083.2 (by decide : (3002 : Int) ≤ 2147483647))⟩)  (p_0 := by omega) (p_1 := by omega)) (fun o V_q hq => ?_)
                      obtain ⟨G1084, A1085, fk2_1086, rfl, rfl, hW1087, hF1088, e1089, p1090, -⟩ := hq
                      have hF1092 := Fr_tr hF0 hF1088 (Fr_sub (by decide)) (Fr_sub (by decide))
                      have hP1093 := Pf_f hP0 hF1088 (by decide)
                      have ec1094 : ecn A1085 (G1084 31) = ec := (ecn_f (hF1088.2 15 rfl) (hF1088.1 31 rfl)).trans e_ec
                      have bfk2_1086 : (0 : Int) ≤ fk2_1086 ∧ fk2_1086 ≤ 6 := e1089 ▸ hW1087.1 16
                      refine .inl ⟨rfl, ?_⟩
                      refine jx_ar (pc_q := 151) (st_q := [.int (i32 (0))]) rfl rfl rfl rfl ?_
                      refine jx_rt (v := some (.int (i32 (0)))) rfl rfl rfl rfl rfl rfl ?_
                      have z1095 := tz_f (tk0)
                      exact ⟨_, _, _, at0, fk2_1086, op0, nd, tk0, ec, rfl, rfl, hW1087, hF1092, hP1093, by omega, ((hF1088.1 10 rfl).trans (e_at0)), (e1089), ((hF1088.1 15 rfl).trans (e_op0)), ((hF1088.1 31 rfl).trans (e_nd)), ((hF1088.1 11 rfl).trans (e_tk0)), ec1094, by omega, by omega, by omega, by omega, by omega, by omega, by first | exact Or.inr (Or.inl (⟨by omega, by omega, by omega⟩))⟩
                  · have _q := h989
                    exact absurd h989 (by omega)
              · have _q := h365
                exact absurd h365 (by omega)
    · have _q := h8
      exact absurd h8 (by omega)
set_option maxRecDepth 20000 in
set_option maxHeartbeats 4000000 in
theorem c_readRest_w {X : jX} {k : Nat} (hE : REw X k) {dd : Nat} {Vs : Nat → Prop} {sb : Int} {c0 c1 : jC} {G : Nat → Int} {A : Nat → Nat → Int} {T : jH} {x : Int} {lo : Int} {ln le at0 fk op0 nd tk0 ec sy : Int} (hd : 6 * k + 15 ≤ dd) (hW : Wk G A) (e_ln : G 9 = ln) (e_le : A 4 (ln).toNat = le) (e_at0 : G 10 = at0) (e_fk : G 16 = fk) (e_op0 : G 15 = op0) (e_nd : G 31 = nd) (e_tk0 : G 11 = tk0) (e_ec : ecn A (G 31) = ec) (e_sy : G 19 = sy) (i_SV : SV Vs sb G A) (h_x : (-2147483648 : Int) ≤ x ∧ x ≤ 2147483647) (p_0 : 0 ≤ op0) (p_1 : op0 ≤ 9) (p_2 : op0 ≤ 8 ∨ 1 ≤ fk) (p_3 : 9 - op0 ≤ ((k + 1 : Nat) : Int) ∨ 1 ≤ fk) (p_4 : nd ≤ 2 * at0 - tz tk0 + 51) (p_5 : at0 ≤ le) (p_6 : nd ≤ 2 * at0 - tz tk0 + 50 ∨ 1 ≤ fk) (p_7 : 0 ≤ x ∧ x ≤ nd) (p_8 : 0 ≤ lo ∧ lo ≤ nd) (p_9 : fk = 0 → wE A Vs sb (2 * k + 3) (x) (lo) (nd)) (p_10 : x + 1 = nd ∨ 1 ≤ fk) : wk X dd 287 [.ref 66, .int (i32 x)] (rV c0 c1 G A T) (fun o V_q => ∃ (G_q : Nat → Int) (A_q : Nat → Nat → Int) (r : Int) (at2 : Int) (fk2 : Int) (op2 : Int) (nd2 : Int) (tk2 : Int) (ec2 : Int), V_q = rV c0 c1 G_q A_q T ∧ o = .inl (some (.int (i32 r))) ∧ Wk G_q A_q ∧ Fr [10, 11, 12, 13, 14, 15, 16, 17, 18, 31] [15, 16, 17, 18, 19, 20, 21, 22, 24, 28] G A G_q A_q ∧ Pf nd A A_q ∧ ((-2147483648 : Int) ≤ r ∧ r ≤ 2147483647) ∧ G_q 10 = at2 ∧ G_q 16 = fk2 ∧ G_q 15 = op2 ∧ G_q 31 = nd2 ∧ G_q 11 = tk2 ∧ ecn A_q (G_q 31) = ec2 ∧ (at0 ≤ at2) ∧ (at2 ≤ le) ∧ (nd ≤ nd2) ∧ (op2 = op0) ∧ (0 ≤ r) ∧ (r ≤ nd2) ∧ (((1 ≤ fk) ∧ (1 ≤ fk2) ∧ (nd2 = nd) ∧ (at2 = at0) ∧ (tk2 = tk0) ∧ (tz tk2 = tz tk0)) ∨ ((fk = 0) ∧ (1 ≤ fk2) ∧ (nd2 - nd ≤ (2 * at2 - tz tk2) - (2 * at0 - tz tk0) + 1)) ∨ ((fk = 0) ∧ (fk2 = 0) ∧ (nd2 - nd ≤ (2 * at2 - tz tk2) - (2 * at0 - tz tk0)) ∧ (wE A_q Vs sb (2 * k + 4) (r) (lo) (nd2)) ∧ (nd2 - nd + 5 * (ec2 - ec) ≤ (2 * at2 - tz tk2) - (2 * at0 - tz tk0) + tz tk0 - tz tk2) ∧ (NdM A_q (nd) (nd2) (sy)) ∧ (r + 1 = nd2)))) := by
  obtain ⟨d, rfl⟩ : ∃ d, dd = d + 1 := ⟨dd - 1, by omega⟩
  refine wk_of (e := jm287) rfl (Nat.le_of_ble_eq_true rfl) ?_
  show wj X d jm287 (0, [(0, .ref 66), (1, .int (i32 (x)))], [], rV c0 c1 G A T) _
  have hF0 : Fr [10, 11, 12, 13, 14, 15, 16, 17, 18, 31] [15, 16, 17, 18, 19, 20, 21, 22, 24, 28] G A G A := Fr_rf
  have hP0 : Pf nd A A := Pf_rf
  have b_ln : (0 : Int) ≤ ln ∧ ln ≤ 3000 := e_ln ▸ hW.1 9
  have b_le : (0 : Int) ≤ le ∧ le ≤ 3000 := e_le ▸ hW.2 4 _
  have b_at0 : (0 : Int) ≤ at0 ∧ at0 ≤ 3002 := e_at0 ▸ hW.1 10
  have b_fk : (0 : Int) ≤ fk ∧ fk ≤ 6 := e_fk ▸ hW.1 16
  have b_op0 : (-2147483648 : Int) ≤ op0 ∧ op0 ≤ 2147483647 := e_op0 ▸ hW.1 15
  have b_nd : (0 : Int) ≤ nd ∧ nd ≤ 6999 := e_nd ▸ hW.1 31
  have z_tk0 := tz_f tk0
  have b_tk0 : (0 : Int) ≤ tk0 ∧ tk0 ≤ 5 := e_tk0 ▸ hW.1 11
  have b_sy : (0 : Int) ≤ sy ∧ sy ≤ 202 := e_sy ▸ hW.1 19
  refine jx_ld (pc_q := 1) (l_q := [(0, .ref 66), (1, .int (i32 (x)))]) (st_q := [.ref 66]) rfl (jl_aloadn rfl) ?_
  refine jx_vr (pc_q := 4) (as := []) (st := []) rfl rfl rfl rfl ⟨rfl, rfl, Nat.le_of_ble_eq_true rfl⟩ rfl rfl (c_bad (dd := d) (hd := by omega) (hW := hW)  (fk := fk) (e_fk := show G 16 = fk from (e_fk))    ) (fun o V_q hq => ?_)
  obtain ⟨r1, rfl, rfl, b2, q3⟩ := hq
  refine .inr ⟨_, rfl, ?_⟩
  rcases q3 with ⟨rfl, a4⟩ | ⟨rfl, a5⟩
  · have _q : True := trivial
    refine jx_if_eq (pc_q := 7) (tg := 11) rfl rfl rfl (by decide) (by decide) (fun h6 => ?_) (fun h6 => ?_)
    · have _q := h6
      exact absurd h6 (by omega)
    · have _q := h6
      refine jx_ar (pc_q := 8) (st_q := [.int (i32 (0))]) rfl rfl rfl rfl ?_
      refine jx_go (tg := 15) rfl rfl ?_
      refine jx_ld (pc_q := 16) (l_q := jSto1 [(0, .ref 66), (1, .int (i32 (x)))] 2 (.int (i32 (0)))) (st_q := []) rfl rfl ?_
      obtain ⟨L7, eL7⟩ : ∃ q, q = jSto1 [(0, .ref 66), (1, .int (i32 (x)))] 2 (.int (i32 (0))) := ⟨_, rfl⟩
      rw [← eL7]
      have gL7_0 : jGet L7 0 = some (.ref 66) := eL7 ▸ jg_ne (by decide) (rfl : jGet [(0, .ref 66), (1, .int (i32 (x)))] 0 = some (.ref 66)) rfl
      have gL7_1 : jGet L7 1 = some (.int (i32 (x))) := eL7 ▸ jg_ne (by decide) (rfl : jGet [(0, .ref 66), (1, .int (i32 (x)))] 1 = some (.int (i32 (x)))) rfl
      have gL7_2 : jGet L7 2 = some (.int (i32 (0))) := eL7 ▸ jg_eq
      refine jx_ld (pc_q := 17) (l_q := L7) (st_q := [.int (i32 (0))]) rfl (jl_iloadn gL7_2) ?_
      refine jx_if_ne (pc_q := 20) (tg := 22) rfl rfl rfl (by decide) (by decide) (fun h8 => ?_) (fun h8 => ?_)
      · have _q := h8
        exact absurd h8 (by omega)
      · have _q := h8
        refine jx_ld (pc_q := 21) (l_q := L7) (st_q := [.int (i32 (x))]) rfl (jl_iloadn gL7_1) ?_
        refine jx_rt (v := some (.int (i32 (x)))) rfl rfl rfl rfl rfl rfl ?_
        have z9 := tz_f (tk0)
        exact ⟨_, _, _, at0, fk, op0, nd, tk0, ec, rfl, rfl, hW, hF0, hP0, by omega, (e_at0), (e_fk), (e_op0), (e_nd), (e_tk0), e_ec, by omega, by omega, by omega, by omega, by omega, by omega, by first | exact Or.inl (⟨by omega, by omega, by omega, by omega, by omega, by omega⟩)⟩
  · have _q : True := trivial
    refine jx_if_eq (pc_q := 7) (tg := 11) rfl rfl rfl (by decide) (by decide) (fun h10 => ?_) (fun h10 => ?_)
    · have _q := h10
      refine jx_ld (pc_q := 12) (l_q := [(0, .ref 66), (1, .int (i32 (x)))]) (st_q := [.ref 66]) rfl (jl_aloadn rfl) ?_
      have b11 : (-2147483648 : Int) ≤ G 13 ∧ G 13 ≤ 2147483647 := hW.1 13
      refine jx_vr (pc_q := 15) (as := []) (st := []) rfl rfl rfl rfl ⟨rfl, rfl, Nat.le_of_ble_eq_true rfl⟩ rfl rfl (c_operationAt (dd := d) (hd := by omega) (hW := hW)  (tk := tk0) (e_tk := show G 11 = tk0 from (e_tk0)) (tn := G 13) (e_tn := show G 13 = G 13 from rfl)    ) (fun o V_q hq => ?_)
      obtain ⟨r12, rfl, rfl, b13, q14⟩ := hq
      refine .inr ⟨_, rfl, ?_⟩
      rcases q14 with rfl | a15
      · have _q : True := trivial
        refine jx_ld (pc_q := 16) (l_q := jSto1 [(0, .ref 66), (1, .int (i32 (x)))] 2 (.int (i32 (0)))) (st_q := []) rfl rfl ?_
        obtain ⟨L16, eL16⟩ : ∃ q, q = jSto1 [(0, .ref 66), (1, .int (i32 (x)))] 2 (.int (i32 (0))) := ⟨_, rfl⟩
        rw [← eL16]
        have gL16_0 : jGet L16 0 = some (.ref 66) := eL16 ▸ jg_ne (by decide) (rfl : jGet [(0, .ref 66), (1, .int (i32 (x)))] 0 = some (.ref 66)) rfl
        have gL16_1 : jGet L16 1 = some (.int (i32 (x))) := eL16 ▸ jg_ne (by decide) (rfl : jGet [(0, .ref 66), (1, .int (i32 (x)))] 1 = some (.int (i32 (x)))) rfl
        have gL16_2 : jGet L16 2 = some (.int (i32 (0))) := eL16 ▸ jg_eq
        refine jx_ld (pc_q := 17) (l_q := L16) (st_q := [.int (i32 (0))]) rfl (jl_iloadn gL16_2) ?_
        refine jx_if_ne (pc_q := 20) (tg := 22) rfl rfl rfl (by decide) (by decide) (fun h17 => ?_) (fun h17 => ?_)
        · have _q := h17
          exact absurd h17 (by omega)
        · have _q := h17
          refine jx_ld (pc_q := 21) (l_q := L16) (st_q := [.int (i32 (x))]) rfl (jl_iloadn gL16_1) ?_
          refine jx_rt (v := some (.int (i32 (x)))) rfl rfl rfl rfl rfl rfl ?_
          have z18 := tz_f (tk0)
          exact ⟨_, _, _, at0, fk, op0, nd, tk0, ec, rfl, rfl, hW, hF0, hP0, by omega, (e_at0), (e_fk), (e_op0), (e_nd), (e_tk0), e_ec, by omega, by omega, by omega, by omega, by omega, by omega, by first | exact Or.inr (Or.inr ((⟨by omega, by omega, by omega, (wE_mono (by omega) (by omega) (by omega) (p_9 (by omega))), by omega, (NdM_0 (by omega)), by omega⟩)))⟩
      · have _q : True := trivial
        refine jx_ld (pc_q := 16) (l_q := jSto1 [(0, .ref 66), (1, .int (i32 (x)))] 2 (.int (i32 (r12)))) (st_q := []) rfl rfl ?_
        obtain ⟨L19, eL19⟩ : ∃ q, q = jSto1 [(0, .ref 66), (1, .int (i32 (x)))] 2 (.int (i32 (r12))) := ⟨_, rfl⟩
        rw [← eL19]
        have gL19_0 : jGet L19 0 = some (.ref 66) := eL19 ▸ jg_ne (by decide) (rfl : jGet [(0, .ref 66), (1, .int (i32 (x)))] 0 = some (.ref 66)) rfl
        have gL19_1 : jGet L19 1 = some (.int (i32 (x))) := eL19 ▸ jg_ne (by decide) (rfl : jGet [(0, .ref 66), (1, .int (i32 (x)))] 1 = some (.int (i32 (x)))) rfl
        have gL19_2 : jGet L19 2 = some (.int (i32 (r12))) := eL19 ▸ jg_eq
        refine jx_ld (pc_q := 17) (l_q := L19) (st_q := [.int (i32 (r12))]) rfl (jl_iloadn gL19_2) ?_
        refine jx_if_ne (pc_q := 20) (tg := 22) rfl rfl rfl (Int.le_trans (by decide : (-2147483648 : Int) ≤ -2147483648) b13.1) (Int.le_trans b13.2 (by decide : (2147483647 : Int) ≤ 2147483647)) (fun h20 => ?_) (fun h20 => ?_)
        · have _q := h20
          refine jx_ld (pc_q := 23) (l_q := L19) (st_q := [.ref 66]) rfl (jl_aloadn gL19_0) ?_
          refine jx_vr (pc_q := 26) (as := []) (st := []) rfl rfl rfl rfl ⟨rfl, rfl, Nat.le_of_ble_eq_true rfl⟩ rfl rfl (c_next (dd := d) (hd := by omega) (hW := hW)  (ln := ln) (e_ln := show G 9 = ln from (e_ln)) (le := le) (e_le := show A 4 (ln).toNat = le from (e_le)) (at0 := at0) (e_at0 := show G 10 = at0 from (e_at0))    (p_0 := by omega)) (fun o V_q hq => ?_)
          obtain ⟨G21, A22, at2_23, tk2_24, rfl, rfl, hW25, hF26, e27, e28, p29, p30, p31, -⟩ := hq
          have hF33 := Fr_tr hF0 hF26 (Fr_sub (by decide)) (Fr_sub (by decide))
          have hP34 := Pf_f hP0 hF26 (by decide)
          have sf35 : wE A22 Vs sb (2 * k + 3) (x) (lo) (nd) := wE_ag (by omega) (Sg_fr hF26 (by decide)) (Ag_fr hF26 (by decide)) (p_9 (by omega))
          have ec36 : ecn A22 (G21 31) = ec := (ecn_f (hF26.2 15 rfl) (hF26.1 31 rfl)).trans e_ec
          have bat2_23 : (0 : Int) ≤ at2_23 ∧ at2_23 ≤ 3002 := e27 ▸ hW25.1 10
          have ztk2_24 := tz_b tk2_24
          have btk2_24 : (0 : Int) ≤ tk2_24 ∧ tk2_24 ≤ 5 := e28 ▸ hW25.1 11
          refine .inl ⟨rfl, ?_⟩
          have pz37 : at0 + tz tk2_24 ≤ at2_23 := by omega
          refine jx_ld (pc_q := 27) (l_q := L19) (st_q := [.ref 66]) rfl (jl_aloadn gL19_0) ?_
          refine jx_vr (pc_q := 30) (as := []) (st := []) rfl rfl rfl rfl ⟨rfl, rfl, Nat.le_of_ble_eq_true rfl⟩ rfl rfl (c_readOperand_w (dd := d) (hE := hE) (hd := by omega) (hW := hW25)  (ln := ln) (e_ln := show G21 9 = ln from ((hF26.1 9 rfl).trans (e_ln))) (le := le) (e_le := show A22 4 (ln).toNat = le from (congrFun (hF26.2 4 rfl) _).trans (e_le)) (at0 := at2_23) (e_at0 := show G21 10 = at2_23 from (e27)) (fk := fk) (e_fk := show G21 16 = fk from ((hF26.1 16 rfl).trans (e_fk))) (op0 := op0) (e_op0 := show G21 15 = op0 from ((hF26.1 15 rfl).trans (e_op0))) (nd := nd) (e_nd := show G21 31 = nd from ((hF26.1 31 rfl).trans (e_nd))) (tk0 := tk2_24) (e_tk0 := show G21 11 = tk2_24 from (e28)) (ec := ec) (e_ec := show ecn A22 (G21 31) = ec from ec36) (sy := sy) (e_sy := show G21 19 = sy from ((hF26.1 19 rfl).trans (e_sy))) (i_SV := (SV_ext ((hF26.1 29 rfl)) ((hF26.2 14 rfl)) i_SV))   (p_0 := by omega) (p_1 := by omega) (p_2 := by omega) (p_3 := by omega) (p_4 := by omega) (p_5 := by omega)) (fun o V_q hq => ?_)
          obtain ⟨G38, A39, r40, at2_41, fk2_42, op2_43, nd2_44, tk2_45, ec2_46, rfl, rfl, hW47, hF48, hQ49, b50, e51, e52, e53, e54, e55, e56, p57, p58, p59, p60, p61, p62, q63⟩ := hq
          have hF64 := Fr_tr hF33 hF48 (Fr_sub (by decide)) (Fr_sub (by decide))
          have hP65 := Pf_tr hP34 hQ49 (by omega)
          have sf66 : wE A39 Vs sb (2 * k + 3) (x) (lo) (nd) := wE_ag (by omega) (Sg_fr hF48 (by decide)) (Ag_pf hQ49 (by omega)) sf35
          have bat2_41 : (0 : Int) ≤ at2_41 ∧ at2_41 ≤ 3002 := e51 ▸ hW47.1 10
          have bfk2_42 : (0 : Int) ≤ fk2_42 ∧ fk2_42 ≤ 6 := e52 ▸ hW47.1 16
          have bop2_43 : (-2147483648 : Int) ≤ op2_43 ∧ op2_43 ≤ 2147483647 := e53 ▸ hW47.1 15
          have bnd2_44 : (0 : Int) ≤ nd2_44 ∧ nd2_44 ≤ 6999 := e54 ▸ hW47.1 31
          have ztk2_45 := tz_b tk2_45
          have btk2_45 : (0 : Int) ≤ tk2_45 ∧ tk2_45 ≤ 5 := e55 ▸ hW47.1 11
          refine .inr ⟨_, rfl, ?_⟩
          rcases q63 with ⟨a67, a68, a69, a70, a71, a72⟩ | ⟨a73, a74, a75⟩ | ⟨a76, a77, a78, a79, a80, a81, a82, a83⟩
          · have _q : True := trivial
            exfalso
            omega
          · have _q : True := trivial
            refine jx_ld (pc_q := 31) (l_q := jSto1 L19 3 (.int (i32 (r40)))) (st_q := []) rfl rfl ?_
            obtain ⟨L84, eL84⟩ : ∃ q, q = jSto1 L19 3 (.int (i32 (r40))) := ⟨_, rfl⟩
            rw [← eL84]
            have gL84_0 : jGet L84 0 = some (.ref 66) := eL84 ▸ jg_ne (by decide) gL19_0 rfl
            have gL84_1 : jGet L84 1 = some (.int (i32 (x))) := eL84 ▸ jg_ne (by decide) gL19_1 rfl
            have gL84_2 : jGet L84 2 = some (.int (i32 (r12))) := eL84 ▸ jg_ne (by decide) gL19_2 rfl
            have gL84_3 : jGet L84 3 = some (.int (i32 (r40))) := eL84 ▸ jg_eq
            refine jx_ld (pc_q := 32) (l_q := L84) (st_q := [.ref 66]) rfl (jl_aloadn gL84_0) ?_
            refine jx_ar (pc_q := 33) (st_q := [.int (i32 (4)), .ref 66]) rfl rfl rfl rfl ?_
            refine jx_ld (pc_q := 34) (l_q := L84) (st_q := [.int (i32 (r12)), .int (i32 (4)), .ref 66]) rfl (jl_iloadn gL84_2) ?_
            refine jx_ld (pc_q := 35) (l_q := L84) (st_q := [.int (i32 (x)), .int (i32 (r12)), .int (i32 (4)), .ref 66]) rfl (jl_iloadn gL84_1) ?_
            refine jx_ld (pc_q := 36) (l_q := L84) (st_q := [.int (i32 (r40)), .int (i32 (x)), .int (i32 (r12)), .int (i32 (4)), .ref 66]) rfl (jl_iloadn gL84_3) ?_
            refine jx_ar (pc_q := 37) (st_q := [.int (i32 (0)), .int (i32 (r40)), .int (i32 (x)), .int (i32 (r12)), .int (i32 (4)), .ref 66]) rfl rfl rfl rfl ?_
            refine jx_vr (pc_q := 40) (as := [.int (i32 (4)), .int (i32 (r12)), .int (i32 (x)), .int (i32 (r40)), .int (i32 (0))]) (st := []) rfl rfl rfl rfl ⟨rfl, rfl, Nat.le_of_ble_eq_true rfl⟩ rfl rfl (c_node_o (dd := d) (hd := by omega) (hW := hW47) (kind := 4) (a := r12) (b := x) (c := r40) (e := 0) (nd := nd2_44) (e_nd := show G38 31 = nd2_44 from (e54)) (ec := ec2_46) (e_ec := show ecn A39 (G38 31) = ec2_46 from e56) (sy := sy) (e_sy := show G38 19 = sy from ((hF48.1 19 rfl).trans ((hF26.1 19 rfl).trans (e_sy))))  (h_kind := ⟨(by decide), (by decide)⟩) (h_a := ⟨(Int.le_trans (by decide : (-2147483648 : Int) ≤ -2147483648) b13.1), (Int.le_trans b13.2 (by decide : (2147483647 : Int) ≤ 2147483647))⟩) (h_b := ⟨(Int.le_trans (by decide : (-2147483648 : Int) ≤ -2147483648) h_x.1), (Int.le_trans h_x.2 (by decide : (2147483647 : Int) ≤ 2147483647))⟩) (h_c := ⟨(Int.le_trans (by decide : (-2147483648 : Int) ≤ -2147483648) b50.1), (Int.le_trans b50.2 (by decide : (2147483647 : Int) ≤ 2147483647))⟩) (h_e := ⟨(by decide), (by decide)⟩)  (p_0 := by omega) (p_1 := by omega) (p_2 := by omega)) (fun o V_q hq => ?_)
            obtain ⟨G85, A86, nd2_87, ec2_88, rfl, rfl, hW89, hF90, hQ91, e92, e93, p94, p95, p96, p97, -⟩ := hq
            have hF99 := Fr_tr hF64 hF90 (Fr_sub (by decide)) (Fr_sub (by decide))
            have hP100 := Pf_tr hP65 hQ91 (by omega)
            have sf101 : wE A86 Vs sb (2 * k + 3) (x) (lo) (nd) := wE_ag (by omega) (Sg_fr hF90 (by decide)) (Ag_pf hQ91 (by omega)) sf66
            have bnd2_87 : (0 : Int) ≤ nd2_87 ∧ nd2_87 ≤ 6999 := e92 ▸ hW89.1 31
            refine .inr ⟨_, rfl, ?_⟩
            refine jx_rt (v := some (.int (i32 (nd2_44)))) rfl rfl rfl rfl rfl rfl ?_
            have z102 := tz_f (tk2_45)
            exact ⟨_, _, _, at2_41, fk2_42, op2_43, nd2_87, tk2_45, ec2_88, rfl, rfl, hW89, hF99, hP100, by omega, ((hF90.1 10 rfl).trans (e51)), ((hF90.1 16 rfl).trans (e52)), ((hF90.1 15 rfl).trans (e53)), (e92), ((hF90.1 11 rfl).trans (e55)), e93, by omega, by omega, by omega, by omega, by omega, by omega, by first | exact Or.inr (Or.inl (⟨by omega, by omega, by omega⟩))⟩
          · have _q : True := trivial
            refine jx_ld (pc_q := 31) (l_q := jSto1 L19 3 (.int (i32 (r40)))) (st_q := []) rfl rfl ?_
            obtain ⟨L103, eL103⟩ : ∃ q, q = jSto1 L19 3 (.int (i32 (r40))) := ⟨_, rfl⟩
            rw [← eL103]
            have gL103_0 : jGet L103 0 = some (.ref 66) := eL103 ▸ jg_ne (by decide) gL19_0 rfl
            have gL103_1 : jGet L103 1 = some (.int (i32 (x))) := eL103 ▸ jg_ne (by decide) gL19_1 rfl
            have gL103_2 : jGet L103 2 = some (.int (i32 (r12))) := eL103 ▸ jg_ne (by decide) gL19_2 rfl
            have gL103_3 : jGet L103 3 = some (.int (i32 (r40))) := eL103 ▸ jg_eq
            refine jx_ld (pc_q := 32) (l_q := L103) (st_q := [.ref 66]) rfl (jl_aloadn gL103_0) ?_
            refine jx_ar (pc_q := 33) (st_q := [.int (i32 (4)), .ref 66]) rfl rfl rfl rfl ?_
            refine jx_ld (pc_q := 34) (l_q := L103) (st_q := [.int (i32 (r12)), .int (i32 (4)), .ref 66]) rfl (jl_iloadn gL103_2) ?_
            refine jx_ld (pc_q := 35) (l_q := L103) (st_q := [.int (i32 (x)), .int (i32 (r12)), .int (i32 (4)), .ref 66]) rfl (jl_iloadn gL103_1) ?_
            refine jx_ld (pc_q := 36) (l_q := L103) (st_q := [.int (i32 (r40)), .int (i32 (x)), .int (i32 (r12)), .int (i32 (4)), .ref 66]) rfl (jl_iloadn gL103_3) ?_
            refine jx_ar (pc_q := 37) (st_q := [.int (i32 (0)), .int (i32 (r40)), .int (i32 (x)), .int (i32 (r12)), .int (i32 (4)), .ref 66]) rfl rfl rfl rfl ?_
            refine jx_vr (pc_q := 40) (as := [.int (i32 (4)), .int (i32 (r12)), .int (i32 (x)), .int (i32 (r40)), .int (i32 (0))]) (st := []) rfl rfl rfl rfl ⟨rfl, rfl, Nat.le_of_ble_eq_true rfl⟩ rfl rfl (c_node_o (dd := d) (hd := by omega) (hW := hW47) (kind := 4) (a := r12) (b := x) (c := r40) (e := 0) (nd := nd2_44) (e_nd := show G38 31 = nd2_44 from (e54)) (ec := ec2_46) (e_ec := show ecn A39 (G38 31) = ec2_46 from e56) (sy := sy) (e_sy := show G38 19 = sy from ((hF48.1 19 rfl).trans ((hF26.1 19 rfl).trans (e_sy))))  (h_kind := ⟨(by decide), (by decide)⟩) (h_a := ⟨(Int.le_trans (by decide : (-2147483648 : Int) ≤ -2147483648) b13.1), (Int.le_trans b13.2 (by decide : (2147483647 : Int) ≤ 2147483647))⟩) (h_b := ⟨(Int.le_trans (by decide : (-2147483648 : Int) ≤ -2147483648) h_x.1), (Int.le_trans h_x.2 (by decide : (2147483647 : Int) ≤ 2147483647))⟩) (h_c := ⟨(Int.le_trans (by decide : (-2147483648 : Int) ≤ -2147483648) b50.1), (Int.le_trans b50.2 (by decide : (2147483647 : Int) ≤ 2147483647))⟩) (h_e := ⟨(by decide), (by decide)⟩)  (p_0 := by omega) (p_1 := by omega) (p_2 := by omega)) (fun o V_q hq => ?_)
            obtain ⟨G104, A105, nd2_106, ec2_107, rfl, rfl, hW108, hF109, hQ110, e111, e112, p113, p114, p115, p116, -⟩ := hq
            have hF118 := Fr_tr hF64 hF109 (Fr_sub (by decide)) (Fr_sub (by decide))
            have hP119 := Pf_tr hP65 hQ110 (by omega)
            have sf120 : wE A105 Vs sb (2 * k + 3) (x) (lo) (nd) := wE_ag (by omega) (Sg_fr hF109 (by decide)) (Ag_pf hQ110 (by omega)) sf66
            have sf121 : wE A105 Vs sb (2 * k + 3) (r40) (nd) (nd2_44) := wE_ag (by omega) (Sg_fr hF109 (by decide)) (Ag_pf hQ110 (by omega)) a79
            have sf122 : NdM A105 (nd) (nd2_44) (sy) := NdM_pf hQ110 (by omega) (by omega) a81
            have bnd2_106 : (0 : Int) ≤ nd2_106 ∧ nd2_106 ≤ 6999 := e111 ▸ hW108.1 31
            refine .inr ⟨_, rfl, ?_⟩
            refine jx_rt (v := some (.int (i32 (nd2_44)))) rfl rfl rfl rfl rfl rfl ?_
            have z123 := tz_f (tk2_45)
            exact ⟨_, _, _, at2_41, fk2_42, op2_43, nd2_106, tk2_45, ec2_107, rfl, rfl, hW108, hF118, hP119, by omega, ((hF109.1 10 rfl).trans (e51)), ((hF109.1 16 rfl).trans (e52)), ((hF109.1 15 rfl).trans (e53)), (e111), ((hF109.1 11 rfl).trans (e55)), e112, by omega, by omega, by omega, by omega, by omega, by omega, by first | exact Or.inr (Or.inr ((⟨by omega, by omega, by omega, (wE_two p115 (by omega) (by omega) (w := nd) (by omega) (by omega) (wE_mono (by omega) (by omega) (by omega) sf120) (wE_mono (by omega) (by omega) (by omega) sf121)), by omega, (NdM_w (NdM_app (sy := sy) sf122 p116 (by omega) (by omega) (by omega)) (by omega) (by omega) (by omega)), by omega⟩)))⟩
        · have _q := h20
          refine jx_ld (pc_q := 21) (l_q := L19) (st_q := [.int (i32 (x))]) rfl (jl_iloadn gL19_1) ?_
          refine jx_rt (v := some (.int (i32 (x)))) rfl rfl rfl rfl rfl rfl ?_
          have z124 := tz_f (tk0)
          exact ⟨_, _, _, at0, fk, op0, nd, tk0, ec, rfl, rfl, hW, hF0, hP0, by omega, (e_at0), (e_fk), (e_op0), (e_nd), (e_tk0), e_ec, by omega, by omega, by omega, by omega, by omega, by omega, by first | exact Or.inr (Or.inr ((⟨by omega, by omega, by omega, (wE_mono (by omega) (by omega) (by omega) (p_9 (by omega))), by omega, (NdM_0 (by omega)), by omega⟩)))⟩
    · have _q := h10
      exact absurd h10 (by omega)
set_option maxRecDepth 20000 in
set_option maxHeartbeats 4000000 in
theorem c_readE_s_w {X : jX} {k : Nat} (hE : REw X k) {dd : Nat} {Vs : Nat → Prop} {sb : Int} {c0 c1 : jC} {G : Nat → Int} {A : Nat → Nat → Int} {T : jH} {ln le at0 fk op0 nd tk0 ec sy : Int} (hd : 6 * (k + 1) + 10 ≤ dd) (hW : Wk G A) (e_ln : G 9 = ln) (e_le : A 4 (ln).toNat = le) (e_at0 : G 10 = at0) (e_fk : G 16 = fk) (e_op0 : G 15 = op0) (e_nd : G 31 = nd) (e_tk0 : G 11 = tk0) (e_ec : ecn A (G 31) = ec) (e_sy : G 19 = sy) (i_SV : SV Vs sb G A) (p_0 : 0 ≤ op0) (p_1 : op0 ≤ 9) (p_2 : op0 ≤ 8 ∨ 1 ≤ fk) (p_3 : 9 - op0 ≤ ((k + 1 : Nat) : Int) ∨ 1 ≤ fk) (p_4 : nd ≤ 2 * at0 - tz tk0 + 50) (p_5 : at0 ≤ le) : wk X dd 286 [.ref 66] (rV c0 c1 G A T) (fun o V_q => ∃ (G_q : Nat → Int) (A_q : Nat → Nat → Int) (r : Int) (at2 : Int) (fk2 : Int) (op2 : Int) (nd2 : Int) (tk2 : Int) (ec2 : Int), V_q = rV c0 c1 G_q A_q T ∧ o = .inl (some (.int (i32 r))) ∧ Wk G_q A_q ∧ Fr [10, 11, 12, 13, 14, 15, 16, 17, 18, 31] [15, 16, 17, 18, 19, 20, 21, 22, 24, 28] G A G_q A_q ∧ Pf nd A A_q ∧ ((-2147483648 : Int) ≤ r ∧ r ≤ 2147483647) ∧ G_q 10 = at2 ∧ G_q 16 = fk2 ∧ G_q 15 = op2 ∧ G_q 31 = nd2 ∧ G_q 11 = tk2 ∧ ecn A_q (G_q 31) = ec2 ∧ (at0 ≤ at2) ∧ (at2 ≤ le) ∧ (nd ≤ nd2) ∧ (op2 = op0) ∧ (0 ≤ r) ∧ (r ≤ nd2) ∧ (((1 ≤ fk) ∧ (1 ≤ fk2) ∧ (nd2 = nd) ∧ (at2 = at0) ∧ (tk2 = tk0) ∧ (tz tk2 = tz tk0)) ∨ ((fk = 0) ∧ (1 ≤ fk2) ∧ (nd2 - nd ≤ (2 * at2 - tz tk2) - (2 * at0 - tz tk0) + 1)) ∨ ((fk = 0) ∧ (fk2 = 0) ∧ (nd2 - nd ≤ (2 * at2 - tz tk2) - (2 * at0 - tz tk0)) ∧ (wE A_q Vs sb (2 * (k + 1) + 2) (r) (nd) (nd2)) ∧ (nd2 - nd + 5 * (ec2 - ec) ≤ (2 * at2 - tz tk2) - (2 * at0 - tz tk0) - tz tk2) ∧ (NdM A_q (nd) (nd2) (sy)) ∧ (r + 1 = nd2) ∧ (tz tk0 = 1)))) := by
  obtain ⟨d, rfl⟩ : ∃ d, dd = d + 1 := ⟨dd - 1, by omega⟩
  refine wk_of (e := jm286) rfl (Nat.le_of_ble_eq_true rfl) ?_
  show wj X d jm286 (0, [(0, .ref 66)], [], rV c0 c1 G A T) _
  have hF0 : Fr [10, 11, 12, 13, 14, 15, 16, 17, 18, 31] [15, 16, 17, 18, 19, 20, 21, 22, 24, 28] G A G A := Fr_rf
  have hP0 : Pf nd A A := Pf_rf
  have b_ln : (0 : Int) ≤ ln ∧ ln ≤ 3000 := e_ln ▸ hW.1 9
  have b_le : (0 : Int) ≤ le ∧ le ≤ 3000 := e_le ▸ hW.2 4 _
  have b_at0 : (0 : Int) ≤ at0 ∧ at0 ≤ 3002 := e_at0 ▸ hW.1 10
  have b_fk : (0 : Int) ≤ fk ∧ fk ≤ 6 := e_fk ▸ hW.1 16
  have b_op0 : (-2147483648 : Int) ≤ op0 ∧ op0 ≤ 2147483647 := e_op0 ▸ hW.1 15
  have b_nd : (0 : Int) ≤ nd ∧ nd ≤ 6999 := e_nd ▸ hW.1 31
  have z_tk0 := tz_f tk0
  have b_tk0 : (0 : Int) ≤ tk0 ∧ tk0 ≤ 5 := e_tk0 ▸ hW.1 11
  have b_sy : (0 : Int) ≤ sy ∧ sy ≤ 202 := e_sy ▸ hW.1 19
  refine jx_ld (pc_q := 1) (l_q := [(0, .ref 66)]) (st_q := [.ref 66]) rfl (jl_aloadn rfl) ?_
  refine jx_vr (pc_q := 4) (as := []) (st := []) rfl rfl rfl rfl ⟨rfl, rfl, Nat.le_of_ble_eq_true rfl⟩ rfl rfl (c_bad (dd := d) (hd := by omega) (hW := hW)  (fk := fk) (e_fk := show G 16 = fk from (e_fk))    ) (fun o V_q hq => ?_)
  obtain ⟨r1, rfl, rfl, b2, q3⟩ := hq
  refine .inr ⟨_, rfl, ?_⟩
  rcases q3 with ⟨rfl, a4⟩ | ⟨rfl, a5⟩
  · have _q : True := trivial
    refine jx_if_eq (pc_q := 7) (tg := 9) rfl rfl rfl (by decide) (by decide) (fun h6 => ?_) (fun h6 => ?_)
    · have _q := h6
      exact absurd h6 (by omega)
    · have _q := h6
      refine jx_ar (pc_q := 8) (st_q := [.int (i32 (0))]) rfl rfl rfl rfl ?_
      refine jx_rt (v := some (.int (i32 (0)))) rfl rfl rfl rfl rfl rfl ?_
      have z7 := tz_f (tk0)
      exact ⟨_, _, _, at0, fk, op0, nd, tk0, ec, rfl, rfl, hW, hF0, hP0, by omega, (e_at0), (e_fk), (e_op0), (e_nd), (e_tk0), e_ec, by omega, by omega, by omega, by omega, by omega, by omega, by first | exact Or.inl (⟨by omega, by omega, by omega, by omega, by omega, by omega⟩)⟩
  · have _q : True := trivial
    refine jx_if_eq (pc_q := 7) (tg := 9) rfl rfl rfl (by decide) (by decide) (fun h8 => ?_) (fun h8 => ?_)
    · have _q := h8
      refine jx_ld (pc_q := 10) (l_q := [(0, .ref 66)]) (st_q := [.ref 66]) rfl (jl_aloadn rfl) ?_
      refine jx_ar (pc_q := 12) (st_q := [.int (i32 (45)), .ref 66]) rfl rfl rfl rfl ?_
      have b9 : (-2147483648 : Int) ≤ G 13 ∧ G 13 ≤ 2147483647 := hW.1 13
      refine jx_vr (pc_q := 15) (as := [.int (i32 (45))]) (st := []) rfl rfl rfl rfl ⟨rfl, rfl, Nat.le_of_ble_eq_true rfl⟩ rfl rfl (c_is (dd := d) (hd := by omega) (hW := hW) (k := 45) (tk := tk0) (e_tk := show G 11 = tk0 from (e_tk0)) (tn := G 13) (e_tn := show G 13 = G 13 from rfl)  (h_k := ⟨(by decide), (by decide)⟩)  ) (fun o V_q hq => ?_)
      obtain ⟨r10, rfl, rfl, b11, q12⟩ := hq
      refine .inr ⟨_, rfl, ?_⟩
      rcases q12 with ⟨rfl, a13, a14, a15⟩ | rfl
      · have _q : True := trivial
        refine jx_if_ne (pc_q := 18) (tg := 27) rfl rfl rfl (by decide) (by decide) (fun h16 => ?_) (fun h16 => ?_)
        · have _q := h16
          refine jx_ld (pc_q := 28) (l_q := [(0, .ref 66)]) (st_q := [.ref 66]) rfl (jl_aloadn rfl) ?_
          refine jx_ar (pc_q := 30) (st_q := [.int (i32 (45)), .ref 66]) rfl rfl rfl rfl ?_
          refine jx_vr (pc_q := 33) (as := [.int (i32 (45))]) (st := []) rfl rfl rfl rfl ⟨rfl, rfl, Nat.le_of_ble_eq_true rfl⟩ rfl rfl (c_is (dd := d) (hd := by omega) (hW := hW) (k := 45) (tk := tk0) (e_tk := show G 11 = tk0 from (e_tk0)) (tn := G 13) (e_tn := show G 13 = G 13 from rfl)  (h_k := ⟨(by decide), (by decide)⟩)  ) (fun o V_q hq => ?_)
          obtain ⟨r17, rfl, rfl, b18, q19⟩ := hq
          refine .inr ⟨_, rfl, ?_⟩
          rcases q19 with ⟨rfl, a20, a21, a22⟩ | rfl
          · have _q : True := trivial
            refine jx_if_eq (pc_q := 36) (tg := 40) rfl rfl rfl (by decide) (by decide) (fun h23 => ?_) (fun h23 => ?_)
            · have _q := h23
              exact absurd h23 (by omega)
            · have _q := h23
              refine jx_ar (pc_q := 37) (st_q := [.int (i32 (5))]) rfl rfl rfl rfl ?_
              refine jx_go (tg := 42) rfl rfl ?_
              refine jx_ld (pc_q := 43) (l_q := jSto1 [(0, .ref 66)] 1 (.int (i32 (5)))) (st_q := []) rfl rfl ?_
              obtain ⟨L24, eL24⟩ : ∃ q, q = jSto1 [(0, .ref 66)] 1 (.int (i32 (5))) := ⟨_, rfl⟩
              rw [← eL24]
              have gL24_0 : jGet L24 0 = some (.ref 66) := eL24 ▸ jg_ne (by decide) (rfl : jGet [(0, .ref 66)] 0 = some (.ref 66)) rfl
              have gL24_1 : jGet L24 1 = some (.int (i32 (5))) := eL24 ▸ jg_eq
              refine jx_ld (pc_q := 44) (l_q := L24) (st_q := [.ref 66]) rfl (jl_aloadn gL24_0) ?_
              refine jx_vr (pc_q := 47) (as := []) (st := []) rfl rfl rfl rfl ⟨rfl, rfl, Nat.le_of_ble_eq_true rfl⟩ rfl rfl (c_next (dd := d) (hd := by omega) (hW := hW)  (ln := ln) (e_ln := show G 9 = ln from (e_ln)) (le := le) (e_le := show A 4 (ln).toNat = le from (e_le)) (at0 := at0) (e_at0 := show G 10 = at0 from (e_at0))    (p_0 := by omega)) (fun o V_q hq => ?_)
              obtain ⟨G25, A26, at2_27, tk2_28, rfl, rfl, hW29, hF30, e31, e32, p33, p34, p35, -⟩ := hq
              have hF37 := Fr_tr hF0 hF30 (Fr_sub (by decide)) (Fr_sub (by decide))
              have hP38 := Pf_f hP0 hF30 (by decide)
              have ec39 : ecn A26 (G25 31) = ec := (ecn_f (hF30.2 15 rfl) (hF30.1 31 rfl)).trans e_ec
              have bat2_27 : (0 : Int) ≤ at2_27 ∧ at2_27 ≤ 3002 := e31 ▸ hW29.1 10
              have ztk2_28 := tz_b tk2_28
              have btk2_28 : (0 : Int) ≤ tk2_28 ∧ tk2_28 ≤ 5 := e32 ▸ hW29.1 11
              refine .inl ⟨rfl, ?_⟩
              have pz40 : at0 + tz tk2_28 ≤ at2_27 := by omega
              refine jx_ld (pc_q := 48) (l_q := L24) (st_q := [.ref 66]) rfl (jl_aloadn gL24_0) ?_
              refine jx_vr (pc_q := 51) (as := []) (st := []) rfl rfl rfl rfl ⟨rfl, rfl, Nat.le_of_ble_eq_true rfl⟩ rfl rfl (c_readOperand_w (dd := d) (hE := hE) (hd := by omega) (hW := hW29)  (ln := ln) (e_ln := show G25 9 = ln from ((hF30.1 9 rfl).trans (e_ln))) (le := le) (e_le := show A26 4 (ln).toNat = le from (congrFun (hF30.2 4 rfl) _).trans (e_le)) (at0 := at2_27) (e_at0 := show G25 10 = at2_27 from (e31)) (fk := fk) (e_fk := show G25 16 = fk from ((hF30.1 16 rfl).trans (e_fk))) (op0 := op0) (e_op0 := show G25 15 = op0 from ((hF30.1 15 rfl).trans (e_op0))) (nd := nd) (e_nd := show G25 31 = nd from ((hF30.1 31 rfl).trans (e_nd))) (tk0 := tk2_28) (e_tk0 := show G25 11 = tk2_28 from (e32)) (ec := ec) (e_ec := show ecn A26 (G25 31) = ec from ec39) (sy := sy) (e_sy := show G25 19 = sy from ((hF30.1 19 rfl).trans (e_sy))) (i_SV := (SV_ext ((hF30.1 29 rfl)) ((hF30.2 14 rfl)) i_SV))   (p_0 := by omega) (p_1 := by omega) (p_2 := by omega) (p_3 := by omega) (p_4 := by omega) (p_5 := by omega)) (fun o V_q hq => ?_)
              obtain ⟨G41, A42, r43, at2_44, fk2_45, op2_46, nd2_47, tk2_48, ec2_49, rfl, rfl, hW50, hF51, hQ52, b53, e54, e55, e56, e57, e58, e59, p60, p61, p62, p63, p64, p65, q66⟩ := hq
              have hF67 := Fr_tr hF37 hF51 (Fr_sub (by decide)) (Fr_sub (by decide))
              have hP68 := Pf_tr hP38 hQ52 (by omega)
              have bat2_44 : (0 : Int) ≤ at2_44 ∧ at2_44 ≤ 3002 := e54 ▸ hW50.1 10
              have bfk2_45 : (0 : Int) ≤ fk2_45 ∧ fk2_45 ≤ 6 := e55 ▸ hW50.1 16
              have bop2_46 : (-2147483648 : Int) ≤ op2_46 ∧ op2_46 ≤ 2147483647 := e56 ▸ hW50.1 15
              have bnd2_47 : (0 : Int) ≤ nd2_47 ∧ nd2_47 ≤ 6999 := e57 ▸ hW50.1 31
              have ztk2_48 := tz_b tk2_48
              have btk2_48 : (0 : Int) ≤ tk2_48 ∧ tk2_48 ≤ 5 := e58 ▸ hW50.1 11
              refine .inr ⟨_, rfl, ?_⟩
              rcases q66 with ⟨a69, a70, a71, a72, a73, a74⟩ | ⟨a75, a76, a77⟩ | ⟨a78, a79, a80, a81, a82, a83, a84, a85⟩
              · have _q : True := trivial
                exfalso
                omega
              · have _q : True := trivial
                refine jx_ld (pc_q := 52) (l_q := jSto1 L24 2 (.int (i32 (r43)))) (st_q := []) rfl rfl ?_
                obtain ⟨L86, eL86⟩ : ∃ q, q = jSto1 L24 2 (.int (i32 (r43))) := ⟨_, rfl⟩
                rw [← eL86]
                have gL86_0 : jGet L86 0 = some (.ref 66) := eL86 ▸ jg_ne (by decide) gL24_0 rfl
                have gL86_1 : jGet L86 1 = some (.int (i32 (5))) := eL86 ▸ jg_ne (by decide) gL24_1 rfl
                have gL86_2 : jGet L86 2 = some (.int (i32 (r43))) := eL86 ▸ jg_eq
                refine jx_ld (pc_q := 53) (l_q := L86) (st_q := [.ref 66]) rfl (jl_aloadn gL86_0) ?_
                refine jx_ld (pc_q := 54) (l_q := L86) (st_q := [.int (i32 (5)), .ref 66]) rfl (jl_iloadn gL86_1) ?_
                refine jx_ld (pc_q := 55) (l_q := L86) (st_q := [.int (i32 (r43)), .int (i32 (5)), .ref 66]) rfl (jl_iloadn gL86_2) ?_
                refine jx_ar (pc_q := 56) (st_q := [.int (i32 (0)), .int (i32 (r43)), .int (i32 (5)), .ref 66]) rfl rfl rfl rfl ?_
                refine jx_ar (pc_q := 57) (st_q := [.int (i32 (0)), .int (i32 (0)), .int (i32 (r43)), .int (i32 (5)), .ref 66]) rfl rfl rfl rfl ?_
                refine jx_ar (pc_q := 58) (st_q := [.int (i32 (0)), .int (i32 (0)), .int (i32 (0)), .int (i32 (r43)), .int (i32 (5)), .ref 66]) rfl rfl rfl rfl ?_
                refine jx_vr (pc_q := 61) (as := [.int (i32 (5)), .int (i32 (r43)), .int (i32 (0)), .int (i32 (0)), .int (i32 (0))]) (st := []) rfl rfl rfl rfl ⟨rfl, rfl, Nat.le_of_ble_eq_true rfl⟩ rfl rfl (c_node_o (dd := d) (hd := by omega) (hW := hW50) (kind := 5) (a := r43) (b := 0) (c := 0) (e := 0) (nd := nd2_47) (e_nd := show G41 31 = nd2_47 from (e57)) (ec := ec2_49) (e_ec := show ecn A42 (G41 31) = ec2_49 from e59) (sy := sy) (e_sy := show G41 19 = sy from ((hF51.1 19 rfl).trans ((hF30.1 19 rfl).trans (e_sy))))  (h_kind := ⟨(by decide), (by decide)⟩) (h_a := ⟨(Int.le_trans (by decide : (-2147483648 : Int) ≤ -2147483648) b53.1), (Int.le_trans b53.2 (by decide : (2147483647 : Int) ≤ 2147483647))⟩) (h_b := ⟨(by decide), (by decide)⟩) (h_c := ⟨(by decide), (by decide)⟩) (h_e := ⟨(by decide), (by decide)⟩)  (p_0 := by omega) (p_1 := by omega) (p_2 := by omega)) (fun o V_q hq => ?_)
                obtain ⟨G87, A88, nd2_89, ec2_90, rfl, rfl, hW91, hF92, hQ93, e94, e95, p96, p97, p98, p99, -⟩ := hq
                have hF101 := Fr_tr hF67 hF92 (Fr_sub (by decide)) (Fr_sub (by decide))
                have hP102 := Pf_tr hP68 hQ93 (by omega)
                have bnd2_89 : (0 : Int) ≤ nd2_89 ∧ nd2_89 ≤ 6999 := e94 ▸ hW91.1 31
                refine .inr ⟨_, rfl, ?_⟩
                refine jx_rt (v := some (.int (i32 (nd2_47)))) rfl rfl rfl rfl rfl rfl ?_
                have z103 := tz_f (tk2_48)
                exact ⟨_, _, _, at2_44, fk2_45, op2_46, nd2_89, tk2_48, ec2_90, rfl, rfl, hW91, hF101, hP102, by omega, ((hF92.1 10 rfl).trans (e54)), ((hF92.1 16 rfl).trans (e55)), ((hF92.1 15 rfl).trans (e56)), (e94), ((hF92.1 11 rfl).trans (e58)), e95, by omega, by omega, by omega, by omega, by omega, by omega, by first | exact Or.inr (Or.inl (⟨by omega, by omega, by omega⟩))⟩
              · have _q : True := trivial
                refine jx_ld (pc_q := 52) (l_q := jSto1 L24 2 (.int (i32 (r43)))) (st_q := []) rfl rfl ?_
                obtain ⟨L104, eL104⟩ : ∃ q, q = jSto1 L24 2 (.int (i32 (r43))) := ⟨_, rfl⟩
                rw [← eL104]
                have gL104_0 : jGet L104 0 = some (.ref 66) := eL104 ▸ jg_ne (by decide) gL24_0 rfl
                have gL104_1 : jGet L104 1 = some (.int (i32 (5))) := eL104 ▸ jg_ne (by decide) gL24_1 rfl
                have gL104_2 : jGet L104 2 = some (.int (i32 (r43))) := eL104 ▸ jg_eq
                refine jx_ld (pc_q := 53) (l_q := L104) (st_q := [.ref 66]) rfl (jl_aloadn gL104_0) ?_
                refine jx_ld (pc_q := 54) (l_q := L104) (st_q := [.int (i32 (5)), .ref 66]) rfl (jl_iloadn gL104_1) ?_
                refine jx_ld (pc_q := 55) (l_q := L104) (st_q := [.int (i32 (r43)), .int (i32 (5)), .ref 66]) rfl (jl_iloadn gL104_2) ?_
                refine jx_ar (pc_q := 56) (st_q := [.int (i32 (0)), .int (i32 (r43)), .int (i32 (5)), .ref 66]) rfl rfl rfl rfl ?_
                refine jx_ar (pc_q := 57) (st_q := [.int (i32 (0)), .int (i32 (0)), .int (i32 (r43)), .int (i32 (5)), .ref 66]) rfl rfl rfl rfl ?_
                refine jx_ar (pc_q := 58) (st_q := [.int (i32 (0)), .int (i32 (0)), .int (i32 (0)), .int (i32 (r43)), .int (i32 (5)), .ref 66]) rfl rfl rfl rfl ?_
                refine jx_vr (pc_q := 61) (as := [.int (i32 (5)), .int (i32 (r43)), .int (i32 (0)), .int (i32 (0)), .int (i32 (0))]) (st := []) rfl rfl rfl rfl ⟨rfl, rfl, Nat.le_of_ble_eq_true rfl⟩ rfl rfl (c_node_o (dd := d) (hd := by omega) (hW := hW50) (kind := 5) (a := r43) (b := 0) (c := 0) (e := 0) (nd := nd2_47) (e_nd := show G41 31 = nd2_47 from (e57)) (ec := ec2_49) (e_ec := show ecn A42 (G41 31) = ec2_49 from e59) (sy := sy) (e_sy := show G41 19 = sy from ((hF51.1 19 rfl).trans ((hF30.1 19 rfl).trans (e_sy))))  (h_kind := ⟨(by decide), (by decide)⟩) (h_a := ⟨(Int.le_trans (by decide : (-2147483648 : Int) ≤ -2147483648) b53.1), (Int.le_trans b53.2 (by decide : (2147483647 : Int) ≤ 2147483647))⟩) (h_b := ⟨(by decide), (by decide)⟩) (h_c := ⟨(by decide), (by decide)⟩) (h_e := ⟨(by decide), (by decide)⟩)  (p_0 := by omega) (p_1 := by omega) (p_2 := by omega)) (fun o V_q hq => ?_)
                obtain ⟨G105, A106, nd2_107, ec2_108, rfl, rfl, hW109, hF110, hQ111, e112, e113, p114, p115, p116, p117, -⟩ := hq
                have hF119 := Fr_tr hF67 hF110 (Fr_sub (by decide)) (Fr_sub (by decide))
                have hP120 := Pf_tr hP68 hQ111 (by omega)
                have sf121 : wE A106 Vs sb (2 * k + 3) (r43) (nd) (nd2_47) := wE_ag (by omega) (Sg_fr hF110 (by decide)) (Ag_pf hQ111 (by omega)) a81
                have sf122 : NdM A106 (nd) (nd2_47) (sy) := NdM_pf hQ111 (by omega) (by omega) a83
                have bnd2_107 : (0 : Int) ≤ nd2_107 ∧ nd2_107 ≤ 6999 := e112 ▸ hW109.1 31
                refine .inr ⟨_, rfl, ?_⟩
                refine jx_rt (v := some (.int (i32 (nd2_47)))) rfl rfl rfl rfl rfl rfl ?_
                have z123 := tz_f (tk2_48)
                exact ⟨_, _, _, at2_44, fk2_45, op2_46, nd2_107, tk2_48, ec2_108, rfl, rfl, hW109, hF119, hP120, by omega, ((hF110.1 10 rfl).trans (e54)), ((hF110.1 16 rfl).trans (e55)), ((hF110.1 15 rfl).trans (e56)), (e112), ((hF110.1 11 rfl).trans (e58)), e113, by omega, by omega, by omega, by omega, by omega, by omega, by first | exact Or.inr (Or.inr ((⟨by omega, by omega, by omega, (wE_one p116 (by omega) (by omega) (by omega) (wE_mono (by omega) (by omega) (by omega) sf121)), by omega, (NdM_w (NdM_app (sy := sy) sf122 p117 (by omega) (by omega) (by omega)) (by omega) (by omega) (by omega)), by omega, by omega⟩)))⟩
          · have _q : True := trivial
            refine jx_if_eq (pc_q := 36) (tg := 40) rfl rfl rfl (by decide) (by decide) (fun h124 => ?_) (fun h124 => ?_)
            · have _q := h124
              refine jx_ar (pc_q := 42) (st_q := [.int (i32 (6))]) rfl rfl rfl rfl ?_
              refine jx_ld (pc_q := 43) (l_q := jSto1 [(0, .ref 66)] 1 (.int (i32 (6)))) (st_q := []) rfl rfl ?_
              obtain ⟨L125, eL125⟩ : ∃ q, q = jSto1 [(0, .ref 66)] 1 (.int (i32 (6))) := ⟨_, rfl⟩
              rw [← eL125]
              have gL125_0 : jGet L125 0 = some (.ref 66) := eL125 ▸ jg_ne (by decide) (rfl : jGet [(0, .ref 66)] 0 = some (.ref 66)) rfl
              have gL125_1 : jGet L125 1 = some (.int (i32 (6))) := eL125 ▸ jg_eq
              refine jx_ld (pc_q := 44) (l_q := L125) (st_q := [.ref 66]) rfl (jl_aloadn gL125_0) ?_
              refine jx_vr (pc_q := 47) (as := []) (st := []) rfl rfl rfl rfl ⟨rfl, rfl, Nat.le_of_ble_eq_true rfl⟩ rfl rfl (c_next (dd := d) (hd := by omega) (hW := hW)  (ln := ln) (e_ln := show G 9 = ln from (e_ln)) (le := le) (e_le := show A 4 (ln).toNat = le from (e_le)) (at0 := at0) (e_at0 := show G 10 = at0 from (e_at0))    (p_0 := by omega)) (fun o V_q hq => ?_)
              obtain ⟨G126, A127, at2_128, tk2_129, rfl, rfl, hW130, hF131, e132, e133, p134, p135, p136, -⟩ := hq
              have hF138 := Fr_tr hF0 hF131 (Fr_sub (by decide)) (Fr_sub (by decide))
              have hP139 := Pf_f hP0 hF131 (by decide)
              have ec140 : ecn A127 (G126 31) = ec := (ecn_f (hF131.2 15 rfl) (hF131.1 31 rfl)).trans e_ec
              have bat2_128 : (0 : Int) ≤ at2_128 ∧ at2_128 ≤ 3002 := e132 ▸ hW130.1 10
              have ztk2_129 := tz_b tk2_129
              have btk2_129 : (0 : Int) ≤ tk2_129 ∧ tk2_129 ≤ 5 := e133 ▸ hW130.1 11
              refine .inl ⟨rfl, ?_⟩
              have pz141 : at0 + tz tk2_129 ≤ at2_128 := by omega
              refine jx_ld (pc_q := 48) (l_q := L125) (st_q := [.ref 66]) rfl (jl_aloadn gL125_0) ?_
              refine jx_vr (pc_q := 51) (as := []) (st := []) rfl rfl rfl rfl ⟨rfl, rfl, Nat.le_of_ble_eq_true rfl⟩ rfl rfl (c_readOperand_w (dd := d) (hE := hE) (hd := by omega) (hW := hW130)  (ln := ln) (e_ln := show G126 9 = ln from ((hF131.1 9 rfl).trans (e_ln))) (le := le) (e_le := show A127 4 (ln).toNat = le from (congrFun (hF131.2 4 rfl) _).trans (e_le)) (at0 := at2_128) (e_at0 := show G126 10 = at2_128 from (e132)) (fk := fk) (e_fk := show G126 16 = fk from ((hF131.1 16 rfl).trans (e_fk))) (op0 := op0) (e_op0 := show G126 15 = op0 from ((hF131.1 15 rfl).trans (e_op0))) (nd := nd) (e_nd := show G126 31 = nd from ((hF131.1 31 rfl).trans (e_nd))) (tk0 := tk2_129) (e_tk0 := show G126 11 = tk2_129 from (e133)) (ec := ec) (e_ec := show ecn A127 (G126 31) = ec from ec140) (sy := sy) (e_sy := show G126 19 = sy from ((hF131.1 19 rfl).trans (e_sy))) (i_SV := (SV_ext ((hF131.1 29 rfl)) ((hF131.2 14 rfl)) i_SV))   (p_0 := by omega) (p_1 := by omega) (p_2 := by omega) (p_3 := by omega) (p_4 := by omega) (p_5 := by omega)) (fun o V_q hq => ?_)
              obtain ⟨G142, A143, r144, at2_145, fk2_146, op2_147, nd2_148, tk2_149, ec2_150, rfl, rfl, hW151, hF152, hQ153, b154, e155, e156, e157, e158, e159, e160, p161, p162, p163, p164, p165, p166, q167⟩ := hq
              have hF168 := Fr_tr hF138 hF152 (Fr_sub (by decide)) (Fr_sub (by decide))
              have hP169 := Pf_tr hP139 hQ153 (by omega)
              have bat2_145 : (0 : Int) ≤ at2_145 ∧ at2_145 ≤ 3002 := e155 ▸ hW151.1 10
              have bfk2_146 : (0 : Int) ≤ fk2_146 ∧ fk2_146 ≤ 6 := e156 ▸ hW151.1 16
              have bop2_147 : (-2147483648 : Int) ≤ op2_147 ∧ op2_147 ≤ 2147483647 := e157 ▸ hW151.1 15
              have bnd2_148 : (0 : Int) ≤ nd2_148 ∧ nd2_148 ≤ 6999 := e158 ▸ hW151.1 31
              have ztk2_149 := tz_b tk2_149
              have btk2_149 : (0 : Int) ≤ tk2_149 ∧ tk2_149 ≤ 5 := e159 ▸ hW151.1 11
              refine .inr ⟨_, rfl, ?_⟩
              rcases q167 with ⟨a170, a171, a172, a173, a174, a175⟩ | ⟨a176, a177, a178⟩ | ⟨a179, a180, a181, a182, a183, a184, a185, a186⟩
              · have _q : True := trivial
                exfalso
                omega
              · have _q : True := trivial
                refine jx_ld (pc_q := 52) (l_q := jSto1 L125 2 (.int (i32 (r144)))) (st_q := []) rfl rfl ?_
                obtain ⟨L187, eL187⟩ : ∃ q, q = jSto1 L125 2 (.int (i32 (r144))) := ⟨_, rfl⟩
                rw [← eL187]
                have gL187_0 : jGet L187 0 = some (.ref 66) := eL187 ▸ jg_ne (by decide) gL125_0 rfl
                have gL187_1 : jGet L187 1 = some (.int (i32 (6))) := eL187 ▸ jg_ne (by decide) gL125_1 rfl
                have gL187_2 : jGet L187 2 = some (.int (i32 (r144))) := eL187 ▸ jg_eq
                refine jx_ld (pc_q := 53) (l_q := L187) (st_q := [.ref 66]) rfl (jl_aloadn gL187_0) ?_
                refine jx_ld (pc_q := 54) (l_q := L187) (st_q := [.int (i32 (6)), .ref 66]) rfl (jl_iloadn gL187_1) ?_
                refine jx_ld (pc_q := 55) (l_q := L187) (st_q := [.int (i32 (r144)), .int (i32 (6)), .ref 66]) rfl (jl_iloadn gL187_2) ?_
                refine jx_ar (pc_q := 56) (st_q := [.int (i32 (0)), .int (i32 (r144)), .int (i32 (6)), .ref 66]) rfl rfl rfl rfl ?_
                refine jx_ar (pc_q := 57) (st_q := [.int (i32 (0)), .int (i32 (0)), .int (i32 (r144)), .int (i32 (6)), .ref 66]) rfl rfl rfl rfl ?_
                refine jx_ar (pc_q := 58) (st_q := [.int (i32 (0)), .int (i32 (0)), .int (i32 (0)), .int (i32 (r144)), .int (i32 (6)), .ref 66]) rfl rfl rfl rfl ?_
                refine jx_vr (pc_q := 61) (as := [.int (i32 (6)), .int (i32 (r144)), .int (i32 (0)), .int (i32 (0)), .int (i32 (0))]) (st := []) rfl rfl rfl rfl ⟨rfl, rfl, Nat.le_of_ble_eq_true rfl⟩ rfl rfl (c_node_o (dd := d) (hd := by omega) (hW := hW151) (kind := 6) (a := r144) (b := 0) (c := 0) (e := 0) (nd := nd2_148) (e_nd := show G142 31 = nd2_148 from (e158)) (ec := ec2_150) (e_ec := show ecn A143 (G142 31) = ec2_150 from e160) (sy := sy) (e_sy := show G142 19 = sy from ((hF152.1 19 rfl).trans ((hF131.1 19 rfl).trans (e_sy))))  (h_kind := ⟨(by decide), (by decide)⟩) (h_a := ⟨(Int.le_trans (by decide : (-2147483648 : Int) ≤ -2147483648) b154.1), (Int.le_trans b154.2 (by decide : (2147483647 : Int) ≤ 2147483647))⟩) (h_b := ⟨(by decide), (by decide)⟩) (h_c := ⟨(by decide), (by decide)⟩) (h_e := ⟨(by decide), (by decide)⟩)  (p_0 := by omega) (p_1 := by omega) (p_2 := by omega)) (fun o V_q hq => ?_)
                obtain ⟨G188, A189, nd2_190, ec2_191, rfl, rfl, hW192, hF193, hQ194, e195, e196, p197, p198, p199, p200, -⟩ := hq
                have hF202 := Fr_tr hF168 hF193 (Fr_sub (by decide)) (Fr_sub (by decide))
                have hP203 := Pf_tr hP169 hQ194 (by omega)
                have bnd2_190 : (0 : Int) ≤ nd2_190 ∧ nd2_190 ≤ 6999 := e195 ▸ hW192.1 31
                refine .inr ⟨_, rfl, ?_⟩
                refine jx_rt (v := some (.int (i32 (nd2_148)))) rfl rfl rfl rfl rfl rfl ?_
                have z204 := tz_f (tk2_149)
                exact ⟨_, _, _, at2_145, fk2_146, op2_147, nd2_190, tk2_149, ec2_191, rfl, rfl, hW192, hF202, hP203, by omega, ((hF193.1 10 rfl).trans (e155)), ((hF193.1 16 rfl).trans (e156)), ((hF193.1 15 rfl).trans (e157)), (e195), ((hF193.1 11 rfl).trans (e159)), e196, by omega, by omega, by omega, by omega, by omega, by omega, by first | exact Or.inr (Or.inl (⟨by omega, by omega, by omega⟩))⟩
              · have _q : True := trivial
                refine jx_ld (pc_q := 52) (l_q := jSto1 L125 2 (.int (i32 (r144)))) (st_q := []) rfl rfl ?_
                obtain ⟨L205, eL205⟩ : ∃ q, q = jSto1 L125 2 (.int (i32 (r144))) := ⟨_, rfl⟩
                rw [← eL205]
                have gL205_0 : jGet L205 0 = some (.ref 66) := eL205 ▸ jg_ne (by decide) gL125_0 rfl
                have gL205_1 : jGet L205 1 = some (.int (i32 (6))) := eL205 ▸ jg_ne (by decide) gL125_1 rfl
                have gL205_2 : jGet L205 2 = some (.int (i32 (r144))) := eL205 ▸ jg_eq
                refine jx_ld (pc_q := 53) (l_q := L205) (st_q := [.ref 66]) rfl (jl_aloadn gL205_0) ?_
                refine jx_ld (pc_q := 54) (l_q := L205) (st_q := [.int (i32 (6)), .ref 66]) rfl (jl_iloadn gL205_1) ?_
                refine jx_ld (pc_q := 55) (l_q := L205) (st_q := [.int (i32 (r144)), .int (i32 (6)), .ref 66]) rfl (jl_iloadn gL205_2) ?_
                refine jx_ar (pc_q := 56) (st_q := [.int (i32 (0)), .int (i32 (r144)), .int (i32 (6)), .ref 66]) rfl rfl rfl rfl ?_
                refine jx_ar (pc_q := 57) (st_q := [.int (i32 (0)), .int (i32 (0)), .int (i32 (r144)), .int (i32 (6)), .ref 66]) rfl rfl rfl rfl ?_
                refine jx_ar (pc_q := 58) (st_q := [.int (i32 (0)), .int (i32 (0)), .int (i32 (0)), .int (i32 (r144)), .int (i32 (6)), .ref 66]) rfl rfl rfl rfl ?_
                refine jx_vr (pc_q := 61) (as := [.int (i32 (6)), .int (i32 (r144)), .int (i32 (0)), .int (i32 (0)), .int (i32 (0))]) (st := []) rfl rfl rfl rfl ⟨rfl, rfl, Nat.le_of_ble_eq_true rfl⟩ rfl rfl (c_node_o (dd := d) (hd := by omega) (hW := hW151) (kind := 6) (a := r144) (b := 0) (c := 0) (e := 0) (nd := nd2_148) (e_nd := show G142 31 = nd2_148 from (e158)) (ec := ec2_150) (e_ec := show ecn A143 (G142 31) = ec2_150 from e160) (sy := sy) (e_sy := show G142 19 = sy from ((hF152.1 19 rfl).trans ((hF131.1 19 rfl).trans (e_sy))))  (h_kind := ⟨(by decide), (by decide)⟩) (h_a := ⟨(Int.le_trans (by decide : (-2147483648 : Int) ≤ -2147483648) b154.1), (Int.le_trans b154.2 (by decide : (2147483647 : Int) ≤ 2147483647))⟩) (h_b := ⟨(by decide), (by decide)⟩) (h_c := ⟨(by decide), (by decide)⟩) (h_e := ⟨(by decide), (by decide)⟩)  (p_0 := by omega) (p_1 := by omega) (p_2 := by omega)) (fun o V_q hq => ?_)
                obtain ⟨G206, A207, nd2_208, ec2_209, rfl, rfl, hW210, hF211, hQ212, e213, e214, p215, p216, p217, p218, -⟩ := hq
                have hF220 := Fr_tr hF168 hF211 (Fr_sub (by decide)) (Fr_sub (by decide))
                have hP221 := Pf_tr hP169 hQ212 (by omega)
                have sf222 : wE A207 Vs sb (2 * k + 3) (r144) (nd) (nd2_148) := wE_ag (by omega) (Sg_fr hF211 (by decide)) (Ag_pf hQ212 (by omega)) a182
                have sf223 : NdM A207 (nd) (nd2_148) (sy) := NdM_pf hQ212 (by omega) (by omega) a184
                have bnd2_208 : (0 : Int) ≤ nd2_208 ∧ nd2_208 ≤ 6999 := e213 ▸ hW210.1 31
                refine .inr ⟨_, rfl, ?_⟩
                refine jx_rt (v := some (.int (i32 (nd2_148)))) rfl rfl rfl rfl rfl rfl ?_
                have z224 := tz_f (tk2_149)
                exact ⟨_, _, _, at2_145, fk2_146, op2_147, nd2_208, tk2_149, ec2_209, rfl, rfl, hW210, hF220, hP221, by omega, ((hF211.1 10 rfl).trans (e155)), ((hF211.1 16 rfl).trans (e156)), ((hF211.1 15 rfl).trans (e157)), (e213), ((hF211.1 11 rfl).trans (e159)), e214, by omega, by omega, by omega, by omega, by omega, by omega, by first | exact Or.inr (Or.inr ((⟨by omega, by omega, by omega, (wE_one p217 (by omega) (by omega) (by omega) (wE_mono (by omega) (by omega) (by omega) sf222)), by omega, (NdM_w (NdM_app (sy := sy) sf223 p218 (by omega) (by omega) (by omega)) (by omega) (by omega) (by omega)), by omega, by omega⟩)))⟩
            · have _q := h124
              exact absurd h124 (by omega)
        · have _q := h16
          exact absurd h16 (by omega)
      · have _q : True := trivial
        refine jx_if_ne (pc_q := 18) (tg := 27) rfl rfl rfl (by decide) (by decide) (fun h225 => ?_) (fun h225 => ?_)
        · have _q := h225
          exact absurd h225 (by omega)
        · have _q := h225
          refine jx_ld (pc_q := 19) (l_q := [(0, .ref 66)]) (st_q := [.ref 66]) rfl (jl_aloadn rfl) ?_
          refine jx_ar (pc_q := 21) (st_q := [.int (i32 (16)), .ref 66]) rfl rfl rfl rfl ?_
          refine jx_vr (pc_q := 24) (as := [.int (i32 (16))]) (st := []) rfl rfl rfl rfl ⟨rfl, rfl, Nat.le_of_ble_eq_true rfl⟩ rfl rfl (c_isKey (dd := d) (hd := by omega) (hW := hW) (k := 16) (tk := tk0) (e_tk := show G 11 = tk0 from (e_tk0)) (tn := G 13) (e_tn := show G 13 = G 13 from rfl)  (h_k := ⟨(by decide), (by decide)⟩)  ) (fun o V_q hq => ?_)
          obtain ⟨r226, rfl, rfl, b227, q228⟩ := hq
          refine .inr ⟨_, rfl, ?_⟩
          rcases q228 with ⟨rfl, a229, a230, a231⟩ | rfl
          · have _q : True := trivial
            refine jx_if_eq (pc_q := 27) (tg := 62) rfl rfl rfl (by decide) (by decide) (fun h232 => ?_) (fun h232 => ?_)
            · have _q := h232
              exact absurd h232 (by omega)
            · have _q := h232
              refine jx_ld (pc_q := 28) (l_q := [(0, .ref 66)]) (st_q := [.ref 66]) rfl (jl_aloadn rfl) ?_
              refine jx_ar (pc_q := 30) (st_q := [.int (i32 (45)), .ref 66]) rfl rfl rfl rfl ?_
              refine jx_vr (pc_q := 33) (as := [.int (i32 (45))]) (st := []) rfl rfl rfl rfl ⟨rfl, rfl, Nat.le_of_ble_eq_true rfl⟩ rfl rfl (c_is (dd := d) (hd := by omega) (hW := hW) (k := 45) (tk := tk0) (e_tk := show G 11 = tk0 from (e_tk0)) (tn := G 13) (e_tn := show G 13 = G 13 from rfl)  (h_k := ⟨(by decide), (by decide)⟩)  ) (fun o V_q hq => ?_)
              obtain ⟨r233, rfl, rfl, b234, q235⟩ := hq
              refine .inr ⟨_, rfl, ?_⟩
              rcases q235 with ⟨rfl, a236, a237, a238⟩ | rfl
              · have _q : True := trivial
                refine jx_if_eq (pc_q := 36) (tg := 40) rfl rfl rfl (by decide) (by decide) (fun h239 => ?_) (fun h239 => ?_)
                · have _q := h239
                  exact absurd h239 (by omega)
                · have _q := h239
                  refine jx_ar (pc_q := 37) (st_q := [.int (i32 (5))]) rfl rfl rfl rfl ?_
                  refine jx_go (tg := 42) rfl rfl ?_
                  refine jx_ld (pc_q := 43) (l_q := jSto1 [(0, .ref 66)] 1 (.int (i32 (5)))) (st_q := []) rfl rfl ?_
                  obtain ⟨L240, eL240⟩ : ∃ q, q = jSto1 [(0, .ref 66)] 1 (.int (i32 (5))) := ⟨_, rfl⟩
                  rw [← eL240]
                  have gL240_0 : jGet L240 0 = some (.ref 66) := eL240 ▸ jg_ne (by decide) (rfl : jGet [(0, .ref 66)] 0 = some (.ref 66)) rfl
                  have gL240_1 : jGet L240 1 = some (.int (i32 (5))) := eL240 ▸ jg_eq
                  refine jx_ld (pc_q := 44) (l_q := L240) (st_q := [.ref 66]) rfl (jl_aloadn gL240_0) ?_
                  refine jx_vr (pc_q := 47) (as := []) (st := []) rfl rfl rfl rfl ⟨rfl, rfl, Nat.le_of_ble_eq_true rfl⟩ rfl rfl (c_next (dd := d) (hd := by omega) (hW := hW)  (ln := ln) (e_ln := show G 9 = ln from (e_ln)) (le := le) (e_le := show A 4 (ln).toNat = le from (e_le)) (at0 := at0) (e_at0 := show G 10 = at0 from (e_at0))    (p_0 := by omega)) (fun o V_q hq => ?_)
                  obtain ⟨G241, A242, at2_243, tk2_244, rfl, rfl, hW245, hF246, e247, e248, p249, p250, p251, -⟩ := hq
                  have hF253 := Fr_tr hF0 hF246 (Fr_sub (by decide)) (Fr_sub (by decide))
                  have hP254 := Pf_f hP0 hF246 (by decide)
                  have ec255 : ecn A242 (G241 31) = ec := (ecn_f (hF246.2 15 rfl) (hF246.1 31 rfl)).trans e_ec
                  have bat2_243 : (0 : Int) ≤ at2_243 ∧ at2_243 ≤ 3002 := e247 ▸ hW245.1 10
                  have ztk2_244 := tz_b tk2_244
                  have btk2_244 : (0 : Int) ≤ tk2_244 ∧ tk2_244 ≤ 5 := e248 ▸ hW245.1 11
                  refine .inl ⟨rfl, ?_⟩
                  have pz256 : at0 + tz tk2_244 ≤ at2_243 := by omega
                  refine jx_ld (pc_q := 48) (l_q := L240) (st_q := [.ref 66]) rfl (jl_aloadn gL240_0) ?_
                  refine jx_vr (pc_q := 51) (as := []) (st := []) rfl rfl rfl rfl ⟨rfl, rfl, Nat.le_of_ble_eq_true rfl⟩ rfl rfl (c_readOperand_w (dd := d) (hE := hE) (hd := by omega) (hW := hW245)  (ln := ln) (e_ln := show G241 9 = ln from ((hF246.1 9 rfl).trans (e_ln))) (le := le) (e_le := show A242 4 (ln).toNat = le from (congrFun (hF246.2 4 rfl) _).trans (e_le)) (at0 := at2_243) (e_at0 := show G241 10 = at2_243 from (e247)) (fk := fk) (e_fk := show G241 16 = fk from ((hF246.1 16 rfl).trans (e_fk))) (op0 := op0) (e_op0 := show G241 15 = op0 from ((hF246.1 15 rfl).trans (e_op0))) (nd := nd) (e_nd := show G241 31 = nd from ((hF246.1 31 rfl).trans (e_nd))) (tk0 := tk2_244) (e_tk0 := show G241 11 = tk2_244 from (e248)) (ec := ec) (e_ec := show ecn A242 (G241 31) = ec from ec255) (sy := sy) (e_sy := show G241 19 = sy from ((hF246.1 19 rfl).trans (e_sy))) (i_SV := (SV_ext ((hF246.1 29 rfl)) ((hF246.2 14 rfl)) i_SV))   (p_0 := by omega) (p_1 := by omega) (p_2 := by omega) (p_3 := by omega) (p_4 := by omega) (p_5 := by omega)) (fun o V_q hq => ?_)
                  obtain ⟨G257, A258, r259, at2_260, fk2_261, op2_262, nd2_263, tk2_264, ec2_265, rfl, rfl, hW266, hF267, hQ268, b269, e270, e271, e272, e273, e274, e275, p276, p277, p278, p279, p280, p281, q282⟩ := hq
                  have hF283 := Fr_tr hF253 hF267 (Fr_sub (by decide)) (Fr_sub (by decide))
                  have hP284 := Pf_tr hP254 hQ268 (by omega)
                  have bat2_260 : (0 : Int) ≤ at2_260 ∧ at2_260 ≤ 3002 := e270 ▸ hW266.1 10
                  have bfk2_261 : (0 : Int) ≤ fk2_261 ∧ fk2_261 ≤ 6 := e271 ▸ hW266.1 16
                  have bop2_262 : (-2147483648 : Int) ≤ op2_262 ∧ op2_262 ≤ 2147483647 := e272 ▸ hW266.1 15
                  have bnd2_263 : (0 : Int) ≤ nd2_263 ∧ nd2_263 ≤ 6999 := e273 ▸ hW266.1 31
                  have ztk2_264 := tz_b tk2_264
                  have btk2_264 : (0 : Int) ≤ tk2_264 ∧ tk2_264 ≤ 5 := e274 ▸ hW266.1 11
                  refine .inr ⟨_, rfl, ?_⟩
                  rcases q282 with ⟨a285, a286, a287, a288, a289, a290⟩ | ⟨a291, a292, a293⟩ | ⟨a294, a295, a296, a297, a298, a299, a300, a301⟩
                  · have _q : True := trivial
                    exfalso
                    omega
                  · have _q : True := trivial
                    refine jx_ld (pc_q := 52) (l_q := jSto1 L240 2 (.int (i32 (r259)))) (st_q := []) rfl rfl ?_
                    obtain ⟨L302, eL302⟩ : ∃ q, q = jSto1 L240 2 (.int (i32 (r259))) := ⟨_, rfl⟩
                    rw [← eL302]
                    have gL302_0 : jGet L302 0 = some (.ref 66) := eL302 ▸ jg_ne (by decide) gL240_0 rfl
                    have gL302_1 : jGet L302 1 = some (.int (i32 (5))) := eL302 ▸ jg_ne (by decide) gL240_1 rfl
                    have gL302_2 : jGet L302 2 = some (.int (i32 (r259))) := eL302 ▸ jg_eq
                    refine jx_ld (pc_q := 53) (l_q := L302) (st_q := [.ref 66]) rfl (jl_aloadn gL302_0) ?_
                    refine jx_ld (pc_q := 54) (l_q := L302) (st_q := [.int (i32 (5)), .ref 66]) rfl (jl_iloadn gL302_1) ?_
                    refine jx_ld (pc_q := 55) (l_q := L302) (st_q := [.int (i32 (r259)), .int (i32 (5)), .ref 66]) rfl (jl_iloadn gL302_2) ?_
                    refine jx_ar (pc_q := 56) (st_q := [.int (i32 (0)), .int (i32 (r259)), .int (i32 (5)), .ref 66]) rfl rfl rfl rfl ?_
                    refine jx_ar (pc_q := 57) (st_q := [.int (i32 (0)), .int (i32 (0)), .int (i32 (r259)), .int (i32 (5)), .ref 66]) rfl rfl rfl rfl ?_
                    refine jx_ar (pc_q := 58) (st_q := [.int (i32 (0)), .int (i32 (0)), .int (i32 (0)), .int (i32 (r259)), .int (i32 (5)), .ref 66]) rfl rfl rfl rfl ?_
                    refine jx_vr (pc_q := 61) (as := [.int (i32 (5)), .int (i32 (r259)), .int (i32 (0)), .int (i32 (0)), .int (i32 (0))]) (st := []) rfl rfl rfl rfl ⟨rfl, rfl, Nat.le_of_ble_eq_true rfl⟩ rfl rfl (c_node_o (dd := d) (hd := by omega) (hW := hW266) (kind := 5) (a := r259) (b := 0) (c := 0) (e := 0) (nd := nd2_263) (e_nd := show G257 31 = nd2_263 from (e273)) (ec := ec2_265) (e_ec := show ecn A258 (G257 31) = ec2_265 from e275) (sy := sy) (e_sy := show G257 19 = sy from ((hF267.1 19 rfl).trans ((hF246.1 19 rfl).trans (e_sy))))  (h_kind := ⟨(by decide), (by decide)⟩) (h_a := ⟨(Int.le_trans (by decide : (-2147483648 : Int) ≤ -2147483648) b269.1), (Int.le_trans b269.2 (by decide : (2147483647 : Int) ≤ 2147483647))⟩) (h_b := ⟨(by decide), (by decide)⟩) (h_c := ⟨(by decide), (by decide)⟩) (h_e := ⟨(by decide), (by decide)⟩)  (p_0 := by omega) (p_1 := by omega) (p_2 := by omega)) (fun o V_q hq => ?_)
                    obtain ⟨G303, A304, nd2_305, ec2_306, rfl, rfl, hW307, hF308, hQ309, e310, e311, p312, p313, p314, p315, -⟩ := hq
                    have hF317 := Fr_tr hF283 hF308 (Fr_sub (by decide)) (Fr_sub (by decide))
                    have hP318 := Pf_tr hP284 hQ309 (by omega)
                    have bnd2_305 : (0 : Int) ≤ nd2_305 ∧ nd2_305 ≤ 6999 := e310 ▸ hW307.1 31
                    refine .inr ⟨_, rfl, ?_⟩
                    refine jx_rt (v := some (.int (i32 (nd2_263)))) rfl rfl rfl rfl rfl rfl ?_
                    have z319 := tz_f (tk2_264)
                    exact ⟨_, _, _, at2_260, fk2_261, op2_262, nd2_305, tk2_264, ec2_306, rfl, rfl, hW307, hF317, hP318, by omega, ((hF308.1 10 rfl).trans (e270)), ((hF308.1 16 rfl).trans (e271)), ((hF308.1 15 rfl).trans (e272)), (e310), ((hF308.1 11 rfl).trans (e274)), e311, by omega, by omega, by omega, by omega, by omega, by omega, by first | exact Or.inr (Or.inl (⟨by omega, by omega, by omega⟩))⟩
                  · have _q : True := trivial
                    refine jx_ld (pc_q := 52) (l_q := jSto1 L240 2 (.int (i32 (r259)))) (st_q := []) rfl rfl ?_
                    obtain ⟨L320, eL320⟩ : ∃ q, q = jSto1 L240 2 (.int (i32 (r259))) := ⟨_, rfl⟩
                    rw [← eL320]
                    have gL320_0 : jGet L320 0 = some (.ref 66) := eL320 ▸ jg_ne (by decide) gL240_0 rfl
                    have gL320_1 : jGet L320 1 = some (.int (i32 (5))) := eL320 ▸ jg_ne (by decide) gL240_1 rfl
                    have gL320_2 : jGet L320 2 = some (.int (i32 (r259))) := eL320 ▸ jg_eq
                    refine jx_ld (pc_q := 53) (l_q := L320) (st_q := [.ref 66]) rfl (jl_aloadn gL320_0) ?_
                    refine jx_ld (pc_q := 54) (l_q := L320) (st_q := [.int (i32 (5)), .ref 66]) rfl (jl_iloadn gL320_1) ?_
                    refine jx_ld (pc_q := 55) (l_q := L320) (st_q := [.int (i32 (r259)), .int (i32 (5)), .ref 66]) rfl (jl_iloadn gL320_2) ?_
                    refine jx_ar (pc_q := 56) (st_q := [.int (i32 (0)), .int (i32 (r259)), .int (i32 (5)), .ref 66]) rfl rfl rfl rfl ?_
                    refine jx_ar (pc_q := 57) (st_q := [.int (i32 (0)), .int (i32 (0)), .int (i32 (r259)), .int (i32 (5)), .ref 66]) rfl rfl rfl rfl ?_
                    refine jx_ar (pc_q := 58) (st_q := [.int (i32 (0)), .int (i32 (0)), .int (i32 (0)), .int (i32 (r259)), .int (i32 (5)), .ref 66]) rfl rfl rfl rfl ?_
                    refine jx_vr (pc_q := 61) (as := [.int (i32 (5)), .int (i32 (r259)), .int (i32 (0)), .int (i32 (0)), .int (i32 (0))]) (st := []) rfl rfl rfl rfl ⟨rfl, rfl, Nat.le_of_ble_eq_true rfl⟩ rfl rfl (c_node_o (dd := d) (hd := by omega) (hW := hW266) (kind := 5) (a := r259) (b := 0) (c := 0) (e := 0) (nd := nd2_263) (e_nd := show G257 31 = nd2_263 from (e273)) (ec := ec2_265) (e_ec := show ecn A258 (G257 31) = ec2_265 from e275) (sy := sy) (e_sy := show G257 19 = sy from ((hF267.1 19 rfl).trans ((hF246.1 19 rfl).trans (e_sy))))  (h_kind := ⟨(by decide), (by decide)⟩) (h_a := ⟨(Int.le_trans (by decide : (-2147483648 : Int) ≤ -2147483648) b269.1), (Int.le_trans b269.2 (by decide : (2147483647 : Int) ≤ 2147483647))⟩) (h_b := ⟨(by decide), (by decide)⟩) (h_c := ⟨(by decide), (by decide)⟩) (h_e := ⟨(by decide), (by decide)⟩)  (p_0 := by omega) (p_1 := by omega) (p_2 := by omega)) (fun o V_q hq => ?_)
                    obtain ⟨G321, A322, nd2_323, ec2_324, rfl, rfl, hW325, hF326, hQ327, e328, e329, p330, p331, p332, p333, -⟩ := hq
                    have hF335 := Fr_tr hF283 hF326 (Fr_sub (by decide)) (Fr_sub (by decide))
                    have hP336 := Pf_tr hP284 hQ327 (by omega)
                    have sf337 : wE A322 Vs sb (2 * k + 3) (r259) (nd) (nd2_263) := wE_ag (by omega) (Sg_fr hF326 (by decide)) (Ag_pf hQ327 (by omega)) a297
                    have sf338 : NdM A322 (nd) (nd2_263) (sy) := NdM_pf hQ327 (by omega) (by omega) a299
                    have bnd2_323 : (0 : Int) ≤ nd2_323 ∧ nd2_323 ≤ 6999 := e328 ▸ hW325.1 31
                    refine .inr ⟨_, rfl, ?_⟩
                    refine jx_rt (v := some (.int (i32 (nd2_263)))) rfl rfl rfl rfl rfl rfl ?_
                    have z339 := tz_f (tk2_264)
                    exact ⟨_, _, _, at2_260, fk2_261, op2_262, nd2_323, tk2_264, ec2_324, rfl, rfl, hW325, hF335, hP336, by omega, ((hF326.1 10 rfl).trans (e270)), ((hF326.1 16 rfl).trans (e271)), ((hF326.1 15 rfl).trans (e272)), (e328), ((hF326.1 11 rfl).trans (e274)), e329, by omega, by omega, by omega, by omega, by omega, by omega, by first | exact Or.inr (Or.inr ((⟨by omega, by omega, by omega, (wE_one p332 (by omega) (by omega) (by omega) (wE_mono (by omega) (by omega) (by omega) sf337)), by omega, (NdM_w (NdM_app (sy := sy) sf338 p333 (by omega) (by omega) (by omega)) (by omega) (by omega) (by omega)), by omega, by omega⟩)))⟩
              · have _q : True := trivial
                refine jx_if_eq (pc_q := 36) (tg := 40) rfl rfl rfl (by decide) (by decide) (fun h340 => ?_) (fun h340 => ?_)
                · have _q := h340
                  refine jx_ar (pc_q := 42) (st_q := [.int (i32 (6))]) rfl rfl rfl rfl ?_
                  refine jx_ld (pc_q := 43) (l_q := jSto1 [(0, .ref 66)] 1 (.int (i32 (6)))) (st_q := []) rfl rfl ?_
                  obtain ⟨L341, eL341⟩ : ∃ q, q = jSto1 [(0, .ref 66)] 1 (.int (i32 (6))) := ⟨_, rfl⟩
                  rw [← eL341]
                  have gL341_0 : jGet L341 0 = some (.ref 66) := eL341 ▸ jg_ne (by decide) (rfl : jGet [(0, .ref 66)] 0 = some (.ref 66)) rfl
                  have gL341_1 : jGet L341 1 = some (.int (i32 (6))) := eL341 ▸ jg_eq
                  refine jx_ld (pc_q := 44) (l_q := L341) (st_q := [.ref 66]) rfl (jl_aloadn gL341_0) ?_
                  refine jx_vr (pc_q := 47) (as := []) (st := []) rfl rfl rfl rfl ⟨rfl, rfl, Nat.le_of_ble_eq_true rfl⟩ rfl rfl (c_next (dd := d) (hd := by omega) (hW := hW)  (ln := ln) (e_ln := show G 9 = ln from (e_ln)) (le := le) (e_le := show A 4 (ln).toNat = le from (e_le)) (at0 := at0) (e_at0 := show G 10 = at0 from (e_at0))    (p_0 := by omega)) (fun o V_q hq => ?_)
                  obtain ⟨G342, A343, at2_344, tk2_345, rfl, rfl, hW346, hF347, e348, e349, p350, p351, p352, -⟩ := hq
                  have hF354 := Fr_tr hF0 hF347 (Fr_sub (by decide)) (Fr_sub (by decide))
                  have hP355 := Pf_f hP0 hF347 (by decide)
                  have ec356 : ecn A343 (G342 31) = ec := (ecn_f (hF347.2 15 rfl) (hF347.1 31 rfl)).trans e_ec
                  have bat2_344 : (0 : Int) ≤ at2_344 ∧ at2_344 ≤ 3002 := e348 ▸ hW346.1 10
                  have ztk2_345 := tz_b tk2_345
                  have btk2_345 : (0 : Int) ≤ tk2_345 ∧ tk2_345 ≤ 5 := e349 ▸ hW346.1 11
                  refine .inl ⟨rfl, ?_⟩
                  have pz357 : at0 + tz tk2_345 ≤ at2_344 := by omega
                  refine jx_ld (pc_q := 48) (l_q := L341) (st_q := [.ref 66]) rfl (jl_aloadn gL341_0) ?_
                  refine jx_vr (pc_q := 51) (as := []) (st := []) rfl rfl rfl rfl ⟨rfl, rfl, Nat.le_of_ble_eq_true rfl⟩ rfl rfl (c_readOperand_w (dd := d) (hE := hE) (hd := by omega) (hW := hW346)  (ln := ln) (e_ln := show G342 9 = ln from ((hF347.1 9 rfl).trans (e_ln))) (le := le) (e_le := show A343 4 (ln).toNat = le from (congrFun (hF347.2 4 rfl) _).trans (e_le)) (at0 := at2_344) (e_at0 := show G342 10 = at2_344 from (e348)) (fk := fk) (e_fk := show G342 16 = fk from ((hF347.1 16 rfl).trans (e_fk))) (op0 := op0) (e_op0 := show G342 15 = op0 from ((hF347.1 15 rfl).trans (e_op0))) (nd := nd) (e_nd := show G342 31 = nd from ((hF347.1 31 rfl).trans (e_nd))) (tk0 := tk2_345) (e_tk0 := show G342 11 = tk2_345 from (e349)) (ec := ec) (e_ec := show ecn A343 (G342 31) = ec from ec356) (sy := sy) (e_sy := show G342 19 = sy from ((hF347.1 19 rfl).trans (e_sy))) (i_SV := (SV_ext ((hF347.1 29 rfl)) ((hF347.2 14 rfl)) i_SV))   (p_0 := by omega) (p_1 := by omega) (p_2 := by omega) (p_3 := by omega) (p_4 := by omega) (p_5 := by omega)) (fun o V_q hq => ?_)
                  obtain ⟨G358, A359, r360, at2_361, fk2_362, op2_363, nd2_364, tk2_365, ec2_366, rfl, rfl, hW367, hF368, hQ369, b370, e371, e372, e373, e374, e375, e376, p377, p378, p379, p380, p381, p382, q383⟩ := hq
                  have hF384 := Fr_tr hF354 hF368 (Fr_sub (by decide)) (Fr_sub (by decide))
                  have hP385 := Pf_tr hP355 hQ369 (by omega)
                  have bat2_361 : (0 : Int) ≤ at2_361 ∧ at2_361 ≤ 3002 := e371 ▸ hW367.1 10
                  have bfk2_362 : (0 : Int) ≤ fk2_362 ∧ fk2_362 ≤ 6 := e372 ▸ hW367.1 16
                  have bop2_363 : (-2147483648 : Int) ≤ op2_363 ∧ op2_363 ≤ 2147483647 := e373 ▸ hW367.1 15
                  have bnd2_364 : (0 : Int) ≤ nd2_364 ∧ nd2_364 ≤ 6999 := e374 ▸ hW367.1 31
                  have ztk2_365 := tz_b tk2_365
                  have btk2_365 : (0 : Int) ≤ tk2_365 ∧ tk2_365 ≤ 5 := e375 ▸ hW367.1 11
                  refine .inr ⟨_, rfl, ?_⟩
                  rcases q383 with ⟨a386, a387, a388, a389, a390, a391⟩ | ⟨a392, a393, a394⟩ | ⟨a395, a396, a397, a398, a399, a400, a401, a402⟩
                  · have _q : True := trivial
                    exfalso
                    omega
                  · have _q : True := trivial
                    refine jx_ld (pc_q := 52) (l_q := jSto1 L341 2 (.int (i32 (r360)))) (st_q := []) rfl rfl ?_
                    obtain ⟨L403, eL403⟩ : ∃ q, q = jSto1 L341 2 (.int (i32 (r360))) := ⟨_, rfl⟩
                    rw [← eL403]
                    have gL403_0 : jGet L403 0 = some (.ref 66) := eL403 ▸ jg_ne (by decide) gL341_0 rfl
                    have gL403_1 : jGet L403 1 = some (.int (i32 (6))) := eL403 ▸ jg_ne (by decide) gL341_1 rfl
                    have gL403_2 : jGet L403 2 = some (.int (i32 (r360))) := eL403 ▸ jg_eq
                    refine jx_ld (pc_q := 53) (l_q := L403) (st_q := [.ref 66]) rfl (jl_aloadn gL403_0) ?_
                    refine jx_ld (pc_q := 54) (l_q := L403) (st_q := [.int (i32 (6)), .ref 66]) rfl (jl_iloadn gL403_1) ?_
                    refine jx_ld (pc_q := 55) (l_q := L403) (st_q := [.int (i32 (r360)), .int (i32 (6)), .ref 66]) rfl (jl_iloadn gL403_2) ?_
                    refine jx_ar (pc_q := 56) (st_q := [.int (i32 (0)), .int (i32 (r360)), .int (i32 (6)), .ref 66]) rfl rfl rfl rfl ?_
                    refine jx_ar (pc_q := 57) (st_q := [.int (i32 (0)), .int (i32 (0)), .int (i32 (r360)), .int (i32 (6)), .ref 66]) rfl rfl rfl rfl ?_
                    refine jx_ar (pc_q := 58) (st_q := [.int (i32 (0)), .int (i32 (0)), .int (i32 (0)), .int (i32 (r360)), .int (i32 (6)), .ref 66]) rfl rfl rfl rfl ?_
                    refine jx_vr (pc_q := 61) (as := [.int (i32 (6)), .int (i32 (r360)), .int (i32 (0)), .int (i32 (0)), .int (i32 (0))]) (st := []) rfl rfl rfl rfl ⟨rfl, rfl, Nat.le_of_ble_eq_true rfl⟩ rfl rfl (c_node_o (dd := d) (hd := by omega) (hW := hW367) (kind := 6) (a := r360) (b := 0) (c := 0) (e := 0) (nd := nd2_364) (e_nd := show G358 31 = nd2_364 from (e374)) (ec := ec2_366) (e_ec := show ecn A359 (G358 31) = ec2_366 from e376) (sy := sy) (e_sy := show G358 19 = sy from ((hF368.1 19 rfl).trans ((hF347.1 19 rfl).trans (e_sy))))  (h_kind := ⟨(by decide), (by decide)⟩) (h_a := ⟨(Int.le_trans (by decide : (-2147483648 : Int) ≤ -2147483648) b370.1), (Int.le_trans b370.2 (by decide : (2147483647 : Int) ≤ 2147483647))⟩) (h_b := ⟨(by decide), (by decide)⟩) (h_c := ⟨(by decide), (by decide)⟩) (h_e := ⟨(by decide), (by decide)⟩)  (p_0 := by omega) (p_1 := by omega) (p_2 := by omega)) (fun o V_q hq => ?_)
                    obtain ⟨G404, A405, nd2_406, ec2_407, rfl, rfl, hW408, hF409, hQ410, e411, e412, p413, p414, p415, p416, -⟩ := hq
                    have hF418 := Fr_tr hF384 hF409 (Fr_sub (by decide)) (Fr_sub (by decide))
                    have hP419 := Pf_tr hP385 hQ410 (by omega)
                    have bnd2_406 : (0 : Int) ≤ nd2_406 ∧ nd2_406 ≤ 6999 := e411 ▸ hW408.1 31
                    refine .inr ⟨_, rfl, ?_⟩
                    refine jx_rt (v := some (.int (i32 (nd2_364)))) rfl rfl rfl rfl rfl rfl ?_
                    have z420 := tz_f (tk2_365)
                    exact ⟨_, _, _, at2_361, fk2_362, op2_363, nd2_406, tk2_365, ec2_407, rfl, rfl, hW408, hF418, hP419, by omega, ((hF409.1 10 rfl).trans (e371)), ((hF409.1 16 rfl).trans (e372)), ((hF409.1 15 rfl).trans (e373)), (e411), ((hF409.1 11 rfl).trans (e375)), e412, by omega, by omega, by omega, by omega, by omega, by omega, by first | exact Or.inr (Or.inl (⟨by omega, by omega, by omega⟩))⟩
                  · have _q : True := trivial
                    refine jx_ld (pc_q := 52) (l_q := jSto1 L341 2 (.int (i32 (r360)))) (st_q := []) rfl rfl ?_
                    obtain ⟨L421, eL421⟩ : ∃ q, q = jSto1 L341 2 (.int (i32 (r360))) := ⟨_, rfl⟩
                    rw [← eL421]
                    have gL421_0 : jGet L421 0 = some (.ref 66) := eL421 ▸ jg_ne (by decide) gL341_0 rfl
                    have gL421_1 : jGet L421 1 = some (.int (i32 (6))) := eL421 ▸ jg_ne (by decide) gL341_1 rfl
                    have gL421_2 : jGet L421 2 = some (.int (i32 (r360))) := eL421 ▸ jg_eq
                    refine jx_ld (pc_q := 53) (l_q := L421) (st_q := [.ref 66]) rfl (jl_aloadn gL421_0) ?_
                    refine jx_ld (pc_q := 54) (l_q := L421) (st_q := [.int (i32 (6)), .ref 66]) rfl (jl_iloadn gL421_1) ?_
                    refine jx_ld (pc_q := 55) (l_q := L421) (st_q := [.int (i32 (r360)), .int (i32 (6)), .ref 66]) rfl (jl_iloadn gL421_2) ?_
                    refine jx_ar (pc_q := 56) (st_q := [.int (i32 (0)), .int (i32 (r360)), .int (i32 (6)), .ref 66]) rfl rfl rfl rfl ?_
                    refine jx_ar (pc_q := 57) (st_q := [.int (i32 (0)), .int (i32 (0)), .int (i32 (r360)), .int (i32 (6)), .ref 66]) rfl rfl rfl rfl ?_
                    refine jx_ar (pc_q := 58) (st_q := [.int (i32 (0)), .int (i32 (0)), .int (i32 (0)), .int (i32 (r360)), .int (i32 (6)), .ref 66]) rfl rfl rfl rfl ?_
                    refine jx_vr (pc_q := 61) (as := [.int (i32 (6)), .int (i32 (r360)), .int (i32 (0)), .int (i32 (0)), .int (i32 (0))]) (st := []) rfl rfl rfl rfl ⟨rfl, rfl, Nat.le_of_ble_eq_true rfl⟩ rfl rfl (c_node_o (dd := d) (hd := by omega) (hW := hW367) (kind := 6) (a := r360) (b := 0) (c := 0) (e := 0) (nd := nd2_364) (e_nd := show G358 31 = nd2_364 from (e374)) (ec := ec2_366) (e_ec := show ecn A359 (G358 31) = ec2_366 from e376) (sy := sy) (e_sy := show G358 19 = sy from ((hF368.1 19 rfl).trans ((hF347.1 19 rfl).trans (e_sy))))  (h_kind := ⟨(by decide), (by decide)⟩) (h_a := ⟨(Int.le_trans (by decide : (-2147483648 : Int) ≤ -2147483648) b370.1), (Int.le_trans b370.2 (by decide : (2147483647 : Int) ≤ 2147483647))⟩) (h_b := ⟨(by decide), (by decide)⟩) (h_c := ⟨(by decide), (by decide)⟩) (h_e := ⟨(by decide), (by decide)⟩)  (p_0 := by omega) (p_1 := by omega) (p_2 := by omega)) (fun o V_q hq => ?_)
                    obtain ⟨G422, A423, nd2_424, ec2_425, rfl, rfl, hW426, hF427, hQ428, e429, e430, p431, p432, p433, p434, -⟩ := hq
                    have hF436 := Fr_tr hF384 hF427 (Fr_sub (by decide)) (Fr_sub (by decide))
                    have hP437 := Pf_tr hP385 hQ428 (by omega)
                    have sf438 : wE A423 Vs sb (2 * k + 3) (r360) (nd) (nd2_364) := wE_ag (by omega) (Sg_fr hF427 (by decide)) (Ag_pf hQ428 (by omega)) a398
                    have sf439 : NdM A423 (nd) (nd2_364) (sy) := NdM_pf hQ428 (by omega) (by omega) a400
                    have bnd2_424 : (0 : Int) ≤ nd2_424 ∧ nd2_424 ≤ 6999 := e429 ▸ hW426.1 31
                    refine .inr ⟨_, rfl, ?_⟩
                    refine jx_rt (v := some (.int (i32 (nd2_364)))) rfl rfl rfl rfl rfl rfl ?_
                    have z440 := tz_f (tk2_365)
                    exact ⟨_, _, _, at2_361, fk2_362, op2_363, nd2_424, tk2_365, ec2_425, rfl, rfl, hW426, hF436, hP437, by omega, ((hF427.1 10 rfl).trans (e371)), ((hF427.1 16 rfl).trans (e372)), ((hF427.1 15 rfl).trans (e373)), (e429), ((hF427.1 11 rfl).trans (e375)), e430, by omega, by omega, by omega, by omega, by omega, by omega, by first | exact Or.inr (Or.inr ((⟨by omega, by omega, by omega, (wE_one p433 (by omega) (by omega) (by omega) (wE_mono (by omega) (by omega) (by omega) sf438)), by omega, (NdM_w (NdM_app (sy := sy) sf439 p434 (by omega) (by omega) (by omega)) (by omega) (by omega) (by omega)), by omega, by omega⟩)))⟩
                · have _q := h340
                  exact absurd h340 (by omega)
          · have _q : True := trivial
            refine jx_if_eq (pc_q := 27) (tg := 62) rfl rfl rfl (by decide) (by decide) (fun h441 => ?_) (fun h441 => ?_)
            · have _q := h441
              refine jx_ld (pc_q := 63) (l_q := [(0, .ref 66)]) (st_q := [.ref 66]) rfl (jl_aloadn rfl) ?_
              refine jx_ld (pc_q := 64) (l_q := [(0, .ref 66)]) (st_q := [.ref 66, .ref 66]) rfl (jl_aloadn rfl) ?_
              refine jx_vr (pc_q := 67) (as := []) (st := [.ref 66]) rfl rfl rfl rfl ⟨rfl, rfl, Nat.le_of_ble_eq_true rfl⟩ rfl rfl (c_readOperand_w (dd := d) (hE := hE) (hd := by omega) (hW := hW)  (ln := ln) (e_ln := show G 9 = ln from (e_ln)) (le := le) (e_le := show A 4 (ln).toNat = le from (e_le)) (at0 := at0) (e_at0 := show G 10 = at0 from (e_at0)) (fk := fk) (e_fk := show G 16 = fk from (e_fk)) (op0 := op0) (e_op0 := show G 15 = op0 from (e_op0)) (nd := nd) (e_nd := show G 31 = nd from (e_nd)) (tk0 := tk0) (e_tk0 := show G 11 = tk0 from (e_tk0)) (ec := ec) (e_ec := show ecn A (G 31) = ec from e_ec) (sy := sy) (e_sy := show G 19 = sy from (e_sy)) (i_SV := (SV_ext (rfl) (rfl) i_SV))   (p_0 := by omega) (p_1 := by omega) (p_2 := by omega) (p_3 := by omega) (p_4 := by omega) (p_5 := by omega)) (fun o V_q hq => ?_)
              obtain ⟨G442, A443, r444, at2_445, fk2_446, op2_447, nd2_448, tk2_449, ec2_450, rfl, rfl, hW451, hF452, hQ453, b454, e455, e456, e457, e458, e459, e460, p461, p462, p463, p464, p465, p466, q467⟩ := hq
              have hF468 := Fr_tr hF0 hF452 (Fr_sub (by decide)) (Fr_sub (by decide))
              have hP469 := Pf_tr hP0 hQ453 (by omega)
              have bat2_445 : (0 : Int) ≤ at2_445 ∧ at2_445 ≤ 3002 := e455 ▸ hW451.1 10
              have bfk2_446 : (0 : Int) ≤ fk2_446 ∧ fk2_446 ≤ 6 := e456 ▸ hW451.1 16
              have bop2_447 : (-2147483648 : Int) ≤ op2_447 ∧ op2_447 ≤ 2147483647 := e457 ▸ hW451.1 15
              have bnd2_448 : (0 : Int) ≤ nd2_448 ∧ nd2_448 ≤ 6999 := e458 ▸ hW451.1 31
              have ztk2_449 := tz_b tk2_449
              have btk2_449 : (0 : Int) ≤ tk2_449 ∧ tk2_449 ≤ 5 := e459 ▸ hW451.1 11
              refine .inr ⟨_, rfl, ?_⟩
              rcases q467 with ⟨a470, a471, a472, a473, a474, a475⟩ | ⟨a476, a477, a478⟩ | ⟨a479, a480, a481, a482, a483, a484, a485, a486⟩
              · have _q : True := trivial
                exfalso
                omega
              · have _q : True := trivial
                refine jx_vr (pc_q := 70) (as := [.int (i32 (r444))]) (st := []) rfl rfl rfl rfl ⟨rfl, rfl, Nat.le_of_ble_eq_true rfl⟩ rfl rfl (c_readRest_w (dd := d) (hE := hE) (hd := by omega) (hW := hW451) (x := r444) (lo := nd) (ln := ln) (e_ln := show G442 9 = ln from ((hF452.1 9 rfl).trans (e_ln))) (le := le) (e_le := show A443 4 (ln).toNat = le from (congrFun (hF452.2 4 rfl) _).trans (e_le)) (at0 := at2_445) (e_at0 := show G442 10 = at2_445 from (e455)) (fk := fk2_446) (e_fk := show G442 16 = fk2_446 from (e456)) (op0 := op2_447) (e_op0 := show G442 15 = op2_447 from (e457)) (nd := nd2_448) (e_nd := show G442 31 = nd2_448 from (e458)) (tk0 := tk2_449) (e_tk0 := show G442 11 = tk2_449 from (e459)) (ec := ec2_450) (e_ec := show ecn A443 (G442 31) = ec2_450 from e460) (sy := sy) (e_sy := show G442 19 = sy from ((hF452.1 19 rfl).trans (e_sy))) (i_SV := (SV_ext ((hF452.1 29 rfl)) ((hF452.2 14 rfl)) i_SV)) (h_x := ⟨(Int.le_trans (by decide : (-2147483648 : Int) ≤ -2147483648) b454.1), (Int.le_trans b454.2 (by decide : (2147483647 : Int) ≤ 2147483647))⟩)  (p_0 := by omega) (p_1 := by omega) (p_2 := by omega) (p_3 := by omega) (p_4 := by omega) (p_5 := by omega) (p_6 := by omega) (p_7 := by omega) (p_8 := by omega) (p_9 := (fun q => absurd q (by omega))) (p_10 := by omega)) (fun o V_q hq => ?_)
                obtain ⟨G487, A488, r489, at2_490, fk2_491, op2_492, nd2_493, tk2_494, ec2_495, rfl, rfl, hW496, hF497, hQ498, b499, e500, e501, e502, e503, e504, e505, p506, p507, p508, p509, p510, p511, q512⟩ := hq
                have hF513 := Fr_tr hF468 hF497 (Fr_sub (by decide)) (Fr_sub (by decide))
                have hP514 := Pf_tr hP469 hQ498 (by omega)
                have bat2_490 : (0 : Int) ≤ at2_490 ∧ at2_490 ≤ 3002 := e500 ▸ hW496.1 10
                have bfk2_491 : (0 : Int) ≤ fk2_491 ∧ fk2_491 ≤ 6 := e501 ▸ hW496.1 16
                have bop2_492 : (-2147483648 : Int) ≤ op2_492 ∧ op2_492 ≤ 2147483647 := e502 ▸ hW496.1 15
                have bnd2_493 : (0 : Int) ≤ nd2_493 ∧ nd2_493 ≤ 6999 := e503 ▸ hW496.1 31
                have ztk2_494 := tz_b tk2_494
                have btk2_494 : (0 : Int) ≤ tk2_494 ∧ tk2_494 ≤ 5 := e504 ▸ hW496.1 11
                refine .inr ⟨_, rfl, ?_⟩
                rcases q512 with ⟨a515, a516, a517, a518, a519, a520⟩ | ⟨a521, a522, a523⟩ | ⟨a524, a525, a526, a527, a528, a529, a530⟩
                · have _q : True := trivial
                  refine jx_rt (v := some (.int (i32 (r489)))) rfl rfl rfl rfl rfl rfl ?_
                  have z531 := tz_f (tk2_494)
                  exact ⟨_, _, _, at2_490, fk2_491, op2_492, nd2_493, tk2_494, ec2_495, rfl, rfl, hW496, hF513, hP514, by omega, (e500), (e501), (e502), (e503), (e504), e505, by omega, by omega, by omega, by omega, by omega, by omega, by first | exact Or.inr (Or.inl (⟨by omega, by omega, by omega⟩))⟩
                · have _q : True := trivial
                  exfalso
                  omega
                · have _q : True := trivial
                  exfalso
                  omega
              · have _q : True := trivial
                refine jx_vr (pc_q := 70) (as := [.int (i32 (r444))]) (st := []) rfl rfl rfl rfl ⟨rfl, rfl, Nat.le_of_ble_eq_true rfl⟩ rfl rfl (c_readRest_w (dd := d) (hE := hE) (hd := by omega) (hW := hW451) (x := r444) (lo := nd) (ln := ln) (e_ln := show G442 9 = ln from ((hF452.1 9 rfl).trans (e_ln))) (le := le) (e_le := show A443 4 (ln).toNat = le from (congrFun (hF452.2 4 rfl) _).trans (e_le)) (at0 := at2_445) (e_at0 := show G442 10 = at2_445 from (e455)) (fk := fk2_446) (e_fk := show G442 16 = fk2_446 from (e456)) (op0 := op2_447) (e_op0 := show G442 15 = op2_447 from (e457)) (nd := nd2_448) (e_nd := show G442 31 = nd2_448 from (e458)) (tk0 := tk2_449) (e_tk0 := show G442 11 = tk2_449 from (e459)) (ec := ec2_450) (e_ec := show ecn A443 (G442 31) = ec2_450 from e460) (sy := sy) (e_sy := show G442 19 = sy from ((hF452.1 19 rfl).trans (e_sy))) (i_SV := (SV_ext ((hF452.1 29 rfl)) ((hF452.2 14 rfl)) i_SV)) (h_x := ⟨(Int.le_trans (by decide : (-2147483648 : Int) ≤ -2147483648) b454.1), (Int.le_trans b454.2 (by decide : (2147483647 : Int) ≤ 2147483647))⟩)  (p_0 := by omega) (p_1 := by omega) (p_2 := by omega) (p_3 := by omega) (p_4 := by omega) (p_5 := by omega) (p_6 := by omega) (p_7 := by omega) (p_8 := by omega) (p_9 := (fun _ => a482)) (p_10 := by omega)) (fun o V_q hq => ?_)
                obtain ⟨G532, A533, r534, at2_535, fk2_536, op2_537, nd2_538, tk2_539, ec2_540, rfl, rfl, hW541, hF542, hQ543, b544, e545, e546, e547, e548, e549, e550, p551, p552, p553, p554, p555, p556, q557⟩ := hq
                have hF558 := Fr_tr hF468 hF542 (Fr_sub (by decide)) (Fr_sub (by decide))
                have hP559 := Pf_tr hP469 hQ543 (by omega)
                have sf560 : wE A533 Vs sb (2 * k + 3) (r444) (nd) (nd2_448) := wE_ag (by omega) (Sg_fr hF542 (by decide)) (Ag_pf hQ543 (by omega)) a482
                have sf561 : NdM A533 (nd) (nd2_448) (sy) := NdM_pf hQ543 (by omega) (by omega) a484
                have bat2_535 : (0 : Int) ≤ at2_535 ∧ at2_535 ≤ 3002 := e545 ▸ hW541.1 10
                have bfk2_536 : (0 : Int) ≤ fk2_536 ∧ fk2_536 ≤ 6 := e546 ▸ hW541.1 16
                have bop2_537 : (-2147483648 : Int) ≤ op2_537 ∧ op2_537 ≤ 2147483647 := e547 ▸ hW541.1 15
                have bnd2_538 : (0 : Int) ≤ nd2_538 ∧ nd2_538 ≤ 6999 := e548 ▸ hW541.1 31
                have ztk2_539 := tz_b tk2_539
                have btk2_539 : (0 : Int) ≤ tk2_539 ∧ tk2_539 ≤ 5 := e549 ▸ hW541.1 11
                refine .inr ⟨_, rfl, ?_⟩
                rcases q557 with ⟨a562, a563, a564, a565, a566, a567⟩ | ⟨a568, a569, a570⟩ | ⟨a571, a572, a573, a574, a575, a576, a577⟩
                · have _q : True := trivial
                  exfalso
                  omega
                · have _q : True := trivial
                  refine jx_rt (v := some (.int (i32 (r534)))) rfl rfl rfl rfl rfl rfl ?_
                  have z578 := tz_f (tk2_539)
                  exact ⟨_, _, _, at2_535, fk2_536, op2_537, nd2_538, tk2_539, ec2_540, rfl, rfl, hW541, hF558, hP559, by omega, (e545), (e546), (e547), (e548), (e549), e550, by omega, by omega, by omega, by omega, by omega, by omega, by first | exact Or.inr (Or.inl (⟨by omega, by omega, by omega⟩))⟩
                · have _q : True := trivial
                  refine jx_rt (v := some (.int (i32 (r534)))) rfl rfl rfl rfl rfl rfl ?_
                  have z579 := tz_f (tk2_539)
                  exact ⟨_, _, _, at2_535, fk2_536, op2_537, nd2_538, tk2_539, ec2_540, rfl, rfl, hW541, hF558, hP559, by omega, (e545), (e546), (e547), (e548), (e549), e550, by omega, by omega, by omega, by omega, by omega, by omega, by first | exact Or.inr (Or.inr ((⟨by omega, by omega, by omega, (wE_mono (by omega) (by omega) (by omega) a574), by omega, (NdM_w (NdM_app (sy := sy) sf561 a576 (by omega) (by omega) (by omega)) (by omega) (by omega) (by omega)), by omega, by omega⟩)))⟩
            · have _q := h441
              exact absurd h441 (by omega)
    · have _q := h8
      exact absurd h8 (by omega)
set_option maxRecDepth 20000 in
set_option maxHeartbeats 4000000 in
theorem c_readE_0_w {X : jX} {dd : Nat} {Vs : Nat → Prop} {sb : Int} {c0 c1 : jC} {G : Nat → Int} {A : Nat → Nat → Int} {T : jH} {ln le at0 fk op0 nd tk0 ec sy : Int} (hd : 6 * 0 + 10 ≤ dd) (hW : Wk G A) (e_ln : G 9 = ln) (e_le : A 4 (ln).toNat = le) (e_at0 : G 10 = at0) (e_fk : G 16 = fk) (e_op0 : G 15 = op0) (e_nd : G 31 = nd) (e_tk0 : G 11 = tk0) (e_ec : ecn A (G 31) = ec) (e_sy : G 19 = sy) (i_SV : SV Vs sb G A) (p_0 : 0 ≤ op0) (p_1 : op0 ≤ 9) (p_2 : op0 ≤ 8 ∨ 1 ≤ fk) (p_3 : 9 - op0 ≤ ((0 : Nat) : Int) ∨ 1 ≤ fk) (p_4 : nd ≤ 2 * at0 - tz tk0 + 50) (p_5 : at0 ≤ le) : wk X dd 286 [.ref 66] (rV c0 c1 G A T) (fun o V_q => ∃ (G_q : Nat → Int) (A_q : Nat → Nat → Int) (r : Int) (at2 : Int) (fk2 : Int) (op2 : Int) (nd2 : Int) (tk2 : Int) (ec2 : Int), V_q = rV c0 c1 G_q A_q T ∧ o = .inl (some (.int (i32 r))) ∧ Wk G_q A_q ∧ Fr [10, 11, 12, 13, 14, 15, 16, 17, 18, 31] [15, 16, 17, 18, 19, 20, 21, 22, 24, 28] G A G_q A_q ∧ Pf nd A A_q ∧ ((-2147483648 : Int) ≤ r ∧ r ≤ 2147483647) ∧ G_q 10 = at2 ∧ G_q 16 = fk2 ∧ G_q 15 = op2 ∧ G_q 31 = nd2 ∧ G_q 11 = tk2 ∧ ecn A_q (G_q 31) = ec2 ∧ (at0 ≤ at2) ∧ (at2 ≤ le) ∧ (nd ≤ nd2) ∧ (op2 = op0) ∧ (0 ≤ r) ∧ (r ≤ nd2) ∧ (((1 ≤ fk) ∧ (1 ≤ fk2) ∧ (nd2 = nd) ∧ (at2 = at0) ∧ (tk2 = tk0) ∧ (tz tk2 = tz tk0)) ∨ ((fk = 0) ∧ (1 ≤ fk2) ∧ (nd2 - nd ≤ (2 * at2 - tz tk2) - (2 * at0 - tz tk0) + 1)) ∨ ((fk = 0) ∧ (fk2 = 0) ∧ (nd2 - nd ≤ (2 * at2 - tz tk2) - (2 * at0 - tz tk0)) ∧ (wE A_q Vs sb (2 * 0 + 2) (r) (nd) (nd2)) ∧ (nd2 - nd + 5 * (ec2 - ec) ≤ (2 * at2 - tz tk2) - (2 * at0 - tz tk0) - tz tk2) ∧ (NdM A_q (nd) (nd2) (sy)) ∧ (r + 1 = nd2) ∧ (tz tk0 = 1)))) := by
  obtain ⟨d, rfl⟩ : ∃ d, dd = d + 1 := ⟨dd - 1, by omega⟩
  refine wk_of (e := jm286) rfl (Nat.le_of_ble_eq_true rfl) ?_
  show wj X d jm286 (0, [(0, .ref 66)], [], rV c0 c1 G A T) _
  have hF0 : Fr [10, 11, 12, 13, 14, 15, 16, 17, 18, 31] [15, 16, 17, 18, 19, 20, 21, 22, 24, 28] G A G A := Fr_rf
  have hP0 : Pf nd A A := Pf_rf
  have b_ln : (0 : Int) ≤ ln ∧ ln ≤ 3000 := e_ln ▸ hW.1 9
  have b_le : (0 : Int) ≤ le ∧ le ≤ 3000 := e_le ▸ hW.2 4 _
  have b_at0 : (0 : Int) ≤ at0 ∧ at0 ≤ 3002 := e_at0 ▸ hW.1 10
  have b_fk : (0 : Int) ≤ fk ∧ fk ≤ 6 := e_fk ▸ hW.1 16
  have b_op0 : (-2147483648 : Int) ≤ op0 ∧ op0 ≤ 2147483647 := e_op0 ▸ hW.1 15
  have b_nd : (0 : Int) ≤ nd ∧ nd ≤ 6999 := e_nd ▸ hW.1 31
  have z_tk0 := tz_f tk0
  have b_tk0 : (0 : Int) ≤ tk0 ∧ tk0 ≤ 5 := e_tk0 ▸ hW.1 11
  have b_sy : (0 : Int) ≤ sy ∧ sy ≤ 202 := e_sy ▸ hW.1 19
  refine jx_ld (pc_q := 1) (l_q := [(0, .ref 66)]) (st_q := [.ref 66]) rfl (jl_aloadn rfl) ?_
  refine jx_vr (pc_q := 4) (as := []) (st := []) rfl rfl rfl rfl ⟨rfl, rfl, Nat.le_of_ble_eq_true rfl⟩ rfl rfl (c_bad (dd := d) (hd := by omega) (hW := hW)  (fk := fk) (e_fk := show G 16 = fk from (e_fk))    ) (fun o V_q hq => ?_)
  obtain ⟨r1, rfl, rfl, b2, q3⟩ := hq
  refine .inr ⟨_, rfl, ?_⟩
  rcases q3 with ⟨rfl, a4⟩ | ⟨rfl, a5⟩
  · have _q : True := trivial
    refine jx_if_eq (pc_q := 7) (tg := 9) rfl rfl rfl (by decide) (by decide) (fun h6 => ?_) (fun h6 => ?_)
    · have _q := h6
      exact absurd h6 (by omega)
    · have _q := h6
      refine jx_ar (pc_q := 8) (st_q := [.int (i32 (0))]) rfl rfl rfl rfl ?_
      refine jx_rt (v := some (.int (i32 (0)))) rfl rfl rfl rfl rfl rfl ?_
      have z7 := tz_f (tk0)
      exact ⟨_, _, _, at0, fk, op0, nd, tk0, ec, rfl, rfl, hW, hF0, hP0, by omega, (e_at0), (e_fk), (e_op0), (e_nd), (e_tk0), e_ec, by omega, by omega, by omega, by omega, by omega, by omega, by first | exact Or.inl (⟨by omega, by omega, by omega, by omega, by omega, by omega⟩)⟩
  · have _q : True := trivial
    refine jx_if_eq (pc_q := 7) (tg := 9) rfl rfl rfl (by decide) (by decide) (fun h8 => ?_) (fun h8 => ?_)
    · have _q := h8
      exfalso
      omega
    · have _q := h8
      exact absurd h8 (by omega)
theorem REw_all (X : jX) : ∀ k, REw X k
  | 0 => @c_readE_0_w X
  | k + 1 => @c_readE_s_w X k (REw_all X k)
