def REw (X : jX) (k : Nat) : Prop := ∀ ⦃dd : Nat⦄ ⦃Vs : Nat → Prop⦄ ⦃sb : Int⦄ ⦃c0 c1 : jC⦄ ⦃G : Nat → Int⦄ ⦃A : Nat → Nat → Int⦄ ⦃T : jH⦄ ⦃ln le at0 fk op0 nd tk0 ec : Int⦄ (hd : 6 * k + 10 ≤ dd) (hW : Wk G A) (e_ln : G 9 = ln) (e_le : A 4 (ln).toNat = le) (e_at0 : G 10 = at0) (e_fk : G 16 = fk) (e_op0 : G 15 = op0) (e_nd : G 31 = nd) (e_tk0 : G 11 = tk0) (e_ec : ecn A (G 31) = ec) (i_SV : SV Vs sb G A) (p_0 : 0 ≤ op0) (p_1 : op0 ≤ 9) (p_2 : op0 ≤ 8 ∨ 1 ≤ fk) (p_3 : 9 - op0 ≤ (k : Int) ∨ 1 ≤ fk) (p_4 : nd ≤ 2 * at0 - tz tk0 + 50) (p_5 : at0 ≤ le), wk X dd 286 [.ref 66] (rV c0 c1 G A T) (fun o V' => ∃ (G' : Nat → Int) (A' : Nat → Nat → Int) (r : Int) (at2 : Int) (fk2 : Int) (op2 : Int) (nd2 : Int) (tk2 : Int) (ec2 : Int), V' = rV c0 c1 G' A' T ∧ o = .inl (some (.int (i32 r))) ∧ Wk G' A' ∧ Fr [10, 11, 12, 13, 14, 15, 16, 17, 18, 31] [15, 16, 17, 18, 19, 20, 21, 22, 24, 28] G A G' A' ∧ Pf nd A A' ∧ ((-2147483648 : Int) ≤ r ∧ r ≤ 2147483647) ∧ G' 10 = at2 ∧ G' 16 = fk2 ∧ G' 15 = op2 ∧ G' 31 = nd2 ∧ G' 11 = tk2 ∧ ecn A' (G' 31) = ec2 ∧ (at0 ≤ at2) ∧ (at2 ≤ le) ∧ (nd ≤ nd2) ∧ (op2 = op0) ∧ (0 ≤ r) ∧ (r ≤ nd2) ∧ (((1 ≤ fk) ∧ (1 ≤ fk2) ∧ (nd2 = nd) ∧ (at2 = at0) ∧ (tk2 = tk0) ∧ (tz tk2 = tz tk0)) ∨ ((fk = 0) ∧ (1 ≤ fk2) ∧ (nd2 - nd ≤ (2 * at2 - tz tk2) - (2 * at0 - tz tk0) + 1)) ∨ ((fk = 0) ∧ (fk2 = 0) ∧ (nd2 - nd ≤ (2 * at2 - tz tk2) - (2 * at0 - tz tk0)) ∧ (wE A' Vs sb (2 * k + 2) (r) (nd) (nd2)) ∧ (nd2 - nd + 5 * (ec2 - ec) ≤ (2 * at2 - tz tk2) - (2 * at0 - tz tk0) - tz tk2))))
set_option maxRecDepth 20000 in
set_option maxHeartbeats 4000000 in
theorem c_readIndex_w {X : jX} {k : Nat} (hE : REw X k) {dd : Nat} {Vs : Nat → Prop} {sb : Int} {c0 c1 : jC} {G : Nat → Int} {A : Nat → Nat → Int} {T : jH} {ln le at0 fk op0 nd tk0 ec : Int} (hd : 6 * k + 12 ≤ dd) (hW : Wk G A) (e_ln : G 9 = ln) (e_le : A 4 (ln).toNat = le) (e_at0 : G 10 = at0) (e_fk : G 16 = fk) (e_op0 : G 15 = op0) (e_nd : G 31 = nd) (e_tk0 : G 11 = tk0) (e_ec : ecn A (G 31) = ec) (i_SV : SV Vs sb G A) (p_0 : 0 ≤ op0) (p_1 : op0 ≤ 9) (p_2 : op0 ≤ 8 ∨ 1 ≤ fk) (p_3 : 9 - op0 ≤ ((k + 1 : Nat) : Int) ∨ 1 ≤ fk) (p_4 : nd ≤ 2 * at0 - tz tk0 + 50) (p_5 : at0 ≤ le) (p_6 : 1 ≤ tk0) (p_7 : op0 ≤ 8) (p_8 : fk = 0) : wk X dd 284 [.ref 66] (rV c0 c1 G A T) (fun o V' => ∃ (G' : Nat → Int) (A' : Nat → Nat → Int) (r : Int) (at2 : Int) (fk2 : Int) (op2 : Int) (nd2 : Int) (tk2 : Int) (ec2 : Int), V' = rV c0 c1 G' A' T ∧ o = .inl (some (.int (i32 r))) ∧ Wk G' A' ∧ Fr [10, 11, 12, 13, 14, 15, 16, 17, 18, 31] [15, 16, 17, 18, 19, 20, 21, 22, 24, 28] G A G' A' ∧ Pf nd A A' ∧ ((-2147483648 : Int) ≤ r ∧ r ≤ 2147483647) ∧ G' 10 = at2 ∧ G' 16 = fk2 ∧ G' 15 = op2 ∧ G' 31 = nd2 ∧ G' 11 = tk2 ∧ ecn A' (G' 31) = ec2 ∧ (at0 ≤ at2) ∧ (at2 ≤ le) ∧ (nd ≤ nd2) ∧ (op2 = op0) ∧ (0 ≤ r) ∧ (r ≤ nd2) ∧ (((fk = 0) ∧ (1 ≤ fk2) ∧ (nd2 - nd ≤ (2 * at2 - tz tk2) - (2 * at0 - tz tk0) + 1)) ∨ ((fk = 0) ∧ (fk2 = 0) ∧ (nd2 - nd ≤ (2 * at2 - tz tk2) - (2 * at0 - tz tk0)) ∧ (wE A' Vs sb (2 * k + 2) (r) (nd) (nd2)) ∧ (nd2 - nd + 5 * (ec2 - ec) ≤ (2 * at2 - tz tk2) - (2 * at0 - tz tk0) - 4 - tz tk2)))) := by
  obtain ⟨d, rfl⟩ : ∃ d, dd = d + 1 := ⟨dd - 1, by omega⟩
  refine wk_of (e := jm284) rfl (Nat.le_of_ble_eq_true rfl) ?_
  show wj X d jm284 (0, [(0, .ref 66)], [], rV c0 c1 G A T) _
  have hF0 : Fr [10, 11, 12, 13, 14, 15, 16, 17, 18, 31] [15, 16, 17, 18, 19, 20, 21, 22, 24, 28] G A G A := Fr_rf
  have hP0 : Pf nd A A := Pf_rf
  have b_ln : (0 : Int) ≤ ln ∧ ln ≤ 3000 := e_ln ▸ hW.1 9
  have b_le : (0 : Int) ≤ le ∧ le ≤ 3000 := e_le ▸ hW.2 4 _
  have b_at0 : (0 : Int) ≤ at0 ∧ at0 ≤ 3002 := e_at0 ▸ hW.1 10
  have b_fk : (0 : Int) ≤ fk ∧ fk ≤ 6 := e_fk ▸ hW.1 16
  have b_op0 : (-2147483648 : Int) ≤ op0 ∧ op0 ≤ 2147483647 := e_op0 ▸ hW.1 15
  have b_nd : (0 : Int) ≤ nd ∧ nd ≤ 6999 := e_nd ▸ hW.1 31
  have z_tk0 := tz_f tk0
  have b_tk0 : (0 : Int) ≤ tk0 ∧ tk0 ≤ 5 := e_tk0 ▸ hW.1 11
  refine jx_ld (pc' := 1) (l' := [(0, .ref 66)]) (st' := [.ref 66]) rfl (jl_aloadn rfl) ?_
  refine jx_vr (pc' := 4) (as := []) (st := []) rfl rfl rfl rfl ⟨rfl, rfl, Nat.le_of_ble_eq_true rfl⟩ rfl rfl (c_open (dd := d) (hd := by omega) (hW := hW)  (fk := fk) (e_fk := show G 16 = fk from (e_fk)) (op0 := op0) (e_op0 := show G 15 = op0 from (e_op0))    (p_0 := by omega)) (fun o V' hq => ?_)
  obtain ⟨G1, A2, fk2_3, op2_4, rfl, rfl, hW5, hF6, e7, e8, p9, q10⟩ := hq
  have hF11 := Fr_tr hF0 hF6 (Fr_sub (by decide)) (Fr_sub (by decide))
  have hP12 := Pf_f hP0 hF6 (by decide)
  have ec13 : ecn A2 (G1 31) = ec := (ecn_f (hF6.2 15 rfl) (hF6.1 31 rfl)).trans e_ec
  have bfk2_3 : (0 : Int) ≤ fk2_3 ∧ fk2_3 ≤ 6 := e7 ▸ hW5.1 16
  have bop2_4 : (-2147483648 : Int) ≤ op2_4 ∧ op2_4 ≤ 2147483647 := e8 ▸ hW5.1 15
  refine .inl ⟨rfl, ?_⟩
  rcases q10 with a14 | ⟨a15, a16, a17⟩
  · have _q : True := trivial
    refine jx_ld (pc' := 5) (l' := [(0, .ref 66)]) (st' := [.ref 66]) rfl (jl_aloadn rfl) ?_
    refine jx_ar (pc' := 6) (st' := [.int (i32 (1)), .ref 66]) rfl rfl rfl rfl ?_
    refine jx_vr (pc' := 9) (as := [.int (i32 (1))]) (st := []) rfl rfl rfl rfl ⟨rfl, rfl, Nat.le_of_ble_eq_true rfl⟩ rfl rfl (c_need (dd := d) (hd := by omega) (hW := hW5) (g := 1) (ln := ln) (e_ln := show G1 9 = ln from ((hF6.1 9 rfl).trans (e_ln))) (le := le) (e_le := show A2 4 (ln).toNat = le from (congrFun (hF6.2 4 rfl) _).trans (e_le)) (at0 := at0) (e_at0 := show G1 10 = at0 from ((hF6.1 10 rfl).trans (e_at0))) (fk := fk2_3) (e_fk := show G1 16 = fk2_3 from (e7)) (tk0 := tk0) (e_tk0 := show G1 11 = tk0 from ((hF6.1 11 rfl).trans (e_tk0)))  (h_g := ⟨(by decide), (by decide)⟩)  (p_0 := by omega)) (fun o V' hq => ?_)
    obtain ⟨G18, A19, at2_20, tk2_21, fk2_22, rfl, rfl, hW23, hF24, e25, e26, e27, p28, p29, q30⟩ := hq
    have hF31 := Fr_tr hF11 hF24 (Fr_sub (by decide)) (Fr_sub (by decide))
    have hP32 := Pf_f hP12 hF24 (by decide)
    have ec33 : ecn A19 (G18 31) = ec := (ecn_f (hF24.2 15 rfl) (hF24.1 31 rfl)).trans ec13
    have bat2_20 : (0 : Int) ≤ at2_20 ∧ at2_20 ≤ 3002 := e25 ▸ hW23.1 10
    have ztk2_21 := tz_b tk2_21
    have btk2_21 : (0 : Int) ≤ tk2_21 ∧ tk2_21 ≤ 5 := e26 ▸ hW23.1 11
    have bfk2_22 : (0 : Int) ≤ fk2_22 ∧ fk2_22 ≤ 6 := e27 ▸ hW23.1 16
    refine .inl ⟨rfl, ?_⟩
    rcases q30 with ⟨a34, a35, a36, a37⟩ | ⟨a38, a39, a40, a41⟩
    · have _q : True := trivial
      refine jx_ld (pc' := 10) (l' := [(0, .ref 66)]) (st' := [.ref 66]) rfl (jl_aloadn rfl) ?_
      refine jx_vr (pc' := 13) (as := []) (st := []) rfl rfl rfl rfl ⟨rfl, rfl, Nat.le_of_ble_eq_true rfl⟩ rfl rfl (hE (dd := d) (hd := by omega) (hW := hW23)  (ln := ln) (e_ln := show G18 9 = ln from ((hF24.1 9 rfl).trans ((hF6.1 9 rfl).trans (e_ln)))) (le := le) (e_le := show A19 4 (ln).toNat = le from (congrFun ((hF24.2 4 rfl).trans (hF6.2 4 rfl)) _).trans (e_le)) (at0 := at2_20) (e_at0 := show G18 10 = at2_20 from (e25)) (fk := fk2_22) (e_fk := show G18 16 = fk2_22 from (e27)) (op0 := op2_4) (e_op0 := show G18 15 = op2_4 from ((hF24.1 15 rfl).trans (e8))) (nd := nd) (e_nd := show G18 31 = nd from ((hF24.1 31 rfl).trans ((hF6.1 31 rfl).trans (e_nd)))) (tk0 := tk2_21) (e_tk0 := show G18 11 = tk2_21 from (e26)) (ec := ec) (e_ec := show ecn A19 (G18 31) = ec from ec33) (i_SV := (SV_ext (((hF24.1 29 rfl).trans (hF6.1 29 rfl))) (((hF24.2 14 rfl).trans (hF6.2 14 rfl))) i_SV))   (p_0 := by omega) (p_1 := by omega) (p_2 := by omega) (p_3 := by omega) (p_4 := by omega) (p_5 := by omega)) (fun o V' hq => ?_)
      obtain ⟨G42, A43, r44, at2_45, fk2_46, op2_47, nd2_48, tk2_49, ec2_50, rfl, rfl, hW51, hF52, hQ53, b54, e55, e56, e57, e58, e59, e60, p61, p62, p63, p64, p65, p66, q67⟩ := hq
      have hF68 := Fr_tr hF31 hF52 (Fr_sub (by decide)) (Fr_sub (by decide))
      have hP69 := Pf_tr hP32 hQ53 (by omega)
      have bat2_45 : (0 : Int) ≤ at2_45 ∧ at2_45 ≤ 3002 := e55 ▸ hW51.1 10
      have bfk2_46 : (0 : Int) ≤ fk2_46 ∧ fk2_46 ≤ 6 := e56 ▸ hW51.1 16
      have bop2_47 : (-2147483648 : Int) ≤ op2_47 ∧ op2_47 ≤ 2147483647 := e57 ▸ hW51.1 15
      have bnd2_48 : (0 : Int) ≤ nd2_48 ∧ nd2_48 ≤ 6999 := e58 ▸ hW51.1 31
      have ztk2_49 := tz_b tk2_49
      have btk2_49 : (0 : Int) ≤ tk2_49 ∧ tk2_49 ≤ 5 := e59 ▸ hW51.1 11
      refine .inr ⟨_, rfl, ?_⟩
      rcases q67 with ⟨a70, a71, a72, a73, a74, a75⟩ | ⟨a76, a77, a78⟩ | ⟨a79, a80, a81, a82, a83⟩
      · have _q : True := trivial
        refine jx_ld (pc' := 14) (l' := jSto1 [(0, .ref 66)] 1 (.int (i32 (r44)))) (st' := []) rfl rfl ?_
        obtain ⟨L84, eL84⟩ : ∃ q, q = jSto1 [(0, .ref 66)] 1 (.int (i32 (r44))) := ⟨_, rfl⟩
        rw [← eL84]
        have gL84_0 : jGet L84 0 = some (.ref 66) := eL84 ▸ jg_ne (by decide) (rfl : jGet [(0, .ref 66)] 0 = some (.ref 66)) rfl
        have gL84_1 : jGet L84 1 = some (.int (i32 (r44))) := eL84 ▸ jg_eq
        refine jx_ld (pc' := 15) (l' := L84) (st' := [.ref 66]) rfl (jl_aloadn gL84_0) ?_
        refine jx_ld (pc' := 16) (l' := L84) (st' := [.ref 66, .ref 66]) rfl (jl_aloadn gL84_0) ?_
        refine jx_ar (pc' := 18) (st' := [.int (i32 (93)), .ref 66, .ref 66]) rfl rfl rfl rfl ?_
        have b85 : (-2147483648 : Int) ≤ G42 13 ∧ G42 13 ≤ 2147483647 := hW51.1 13
        refine jx_vr (pc' := 21) (as := [.int (i32 (93))]) (st := [.ref 66]) rfl rfl rfl rfl ⟨rfl, rfl, Nat.le_of_ble_eq_true rfl⟩ rfl rfl (c_is (dd := d) (hd := by omega) (hW := hW51) (k := 93) (tk := tk2_49) (e_tk := show G42 11 = tk2_49 from (e59)) (tn := G42 13) (e_tn := show G42 13 = G42 13 from rfl)  (h_k := ⟨(by decide), (by decide)⟩)  ) (fun o V' hq => ?_)
        obtain ⟨r86, rfl, rfl, b87, q88⟩ := hq
        refine .inr ⟨_, rfl, ?_⟩
        rcases q88 with ⟨rfl, a89, a90, a91⟩ | rfl
        · have _q : True := trivial
          refine jx_vr (pc' := 24) (as := [.int (i32 (1))]) (st := []) rfl rfl rfl rfl ⟨rfl, rfl, Nat.le_of_ble_eq_true rfl⟩ rfl rfl (c_need (dd := d) (hd := by omega) (hW := hW51) (g := 1) (ln := ln) (e_ln := show G42 9 = ln from ((hF52.1 9 rfl).trans ((hF24.1 9 rfl).trans ((hF6.1 9 rfl).trans (e_ln))))) (le := le) (e_le := show A43 4 (ln).toNat = le from (congrFun ((hF52.2 4 rfl).trans ((hF24.2 4 rfl).trans (hF6.2 4 rfl))) _).trans (e_le)) (at0 := at2_45) (e_at0 := show G42 10 = at2_45 from (e55)) (fk := fk2_46) (e_fk := show G42 16 = fk2_46 from (e56)) (tk0 := tk2_49) (e_tk0 := show G42 11 = tk2_49 from (e59))  (h_g := ⟨(by decide), (by decide)⟩)  (p_0 := by omega)) (fun o V' hq => ?_)
          obtain ⟨G92, A93, at2_94, tk2_95, fk2_96, rfl, rfl, hW97, hF98, e99, e100, e101, p102, p103, q104⟩ := hq
          have hF105 := Fr_tr hF68 hF98 (Fr_sub (by decide)) (Fr_sub (by decide))
          have hP106 := Pf_f hP69 hF98 (by decide)
          have ec107 : ecn A93 (G92 31) = ec2_50 := (ecn_f (hF98.2 15 rfl) (hF98.1 31 rfl)).trans e60
          have bat2_94 : (0 : Int) ≤ at2_94 ∧ at2_94 ≤ 3002 := e99 ▸ hW97.1 10
          have ztk2_95 := tz_b tk2_95
          have btk2_95 : (0 : Int) ≤ tk2_95 ∧ tk2_95 ≤ 5 := e100 ▸ hW97.1 11
          have bfk2_96 : (0 : Int) ≤ fk2_96 ∧ fk2_96 ≤ 6 := e101 ▸ hW97.1 16
          refine .inl ⟨rfl, ?_⟩
          rcases q104 with ⟨a108, a109, a110, a111⟩ | ⟨a112, a113, a114, a115⟩
          · have _q : True := trivial
            refine jx_ld (pc' := 25) (l' := L84) (st' := [.ref 66]) rfl (jl_aloadn gL84_0) ?_
            refine jx_ar (pc' := 26) (st' := [.ref 66, .ref 66]) rfl rfl rfl rfl ?_
            refine jr_get (pc' := 29) (i := 15) (v := .int (i32 (op2_47))) rfl rfl (by decide) (rFv_eq (by decide) (show G92 15 = op2_47 from ((hF98.1 15 rfl).trans (e57)))) rfl ?_
            refine jx_ar (pc' := 30) (st' := [.int (i32 (1)), .int (i32 (op2_47)), .ref 66]) rfl rfl rfl rfl ?_
            refine jx_sub (pc' := 31) rfl rfl ?_
            refine jr_put (pc' := 34) (i := 15) (z := (op2_47 - 1)) rfl rfl (by decide) rfl rfl rfl rfl rfl rfl ?_
            have hW116 : Wk (uG G92 15 ((op2_47 - 1))) A93 := Wk_g hW97 (show (-2147483648 : Int) ≤ (op2_47 - 1) by omega) (show (op2_47 - 1) ≤ (2147483647 : Int) by omega)
            have hF117 := Fr_g (z := (op2_47 - 1)) (i := 15) hF105 (by decide)
            have ec118 : ecn A93 ((uG G92 15 ((op2_47 - 1))) 31) = ec2_50 := ec107
            refine jx_ld (pc' := 35) (l' := L84) (st' := [.int (i32 (r44))]) rfl (jl_iloadn gL84_1) ?_
            refine jx_rt (v := some (.int (i32 (r44)))) rfl rfl rfl rfl rfl rfl ?_
            have z119 := tz_f (tk2_95)
            exact ⟨_, _, _, at2_94, fk2_96, (op2_47 - 1), nd2_48, tk2_95, ec2_50, rfl, rfl, hW116, hF117, hP106, by omega, (e99), (e101), rfl, ((hF98.1 31 rfl).trans (e58)), (e100), ec118, by omega, by omega, by omega, by omega, by omega, by omega, by first | exact Or.inl (⟨by omega, by omega, by omega⟩)⟩
          · have _q : True := trivial
            exfalso
            omega
        · have _q : True := trivial
          refine jx_vr (pc' := 24) (as := [.int (i32 (0))]) (st := []) rfl rfl rfl rfl ⟨rfl, rfl, Nat.le_of_ble_eq_true rfl⟩ rfl rfl (c_need (dd := d) (hd := by omega) (hW := hW51) (g := 0) (ln := ln) (e_ln := show G42 9 = ln from ((hF52.1 9 rfl).trans ((hF24.1 9 rfl).trans ((hF6.1 9 rfl).trans (e_ln))))) (le := le) (e_le := show A43 4 (ln).toNat = le from (congrFun ((hF52.2 4 rfl).trans ((hF24.2 4 rfl).trans (hF6.2 4 rfl))) _).trans (e_le)) (at0 := at2_45) (e_at0 := show G42 10 = at2_45 from (e55)) (fk := fk2_46) (e_fk := show G42 16 = fk2_46 from (e56)) (tk0 := tk2_49) (e_tk0 := show G42 11 = tk2_49 from (e59))  (h_g := ⟨(by decide), (by decide)⟩)  (p_0 := by omega)) (fun o V' hq => ?_)
          obtain ⟨G120, A121, at2_122, tk2_123, fk2_124, rfl, rfl, hW125, hF126, e127, e128, e129, p130, p131, q132⟩ := hq
          have hF133 := Fr_tr hF68 hF126 (Fr_sub (by decide)) (Fr_sub (by decide))
          have hP134 := Pf_f hP69 hF126 (by decide)
          have ec135 : ecn A121 (G120 31) = ec2_50 := (ecn_f (hF126.2 15 rfl) (hF126.1 31 rfl)).trans e60
          have bat2_122 : (0 : Int) ≤ at2_122 ∧ at2_122 ≤ 3002 := e127 ▸ hW125.1 10
          have ztk2_123 := tz_b tk2_123
          have btk2_123 : (0 : Int) ≤ tk2_123 ∧ tk2_123 ≤ 5 := e128 ▸ hW125.1 11
          have bfk2_124 : (0 : Int) ≤ fk2_124 ∧ fk2_124 ≤ 6 := e129 ▸ hW125.1 16
          refine .inl ⟨rfl, ?_⟩
          rcases q132 with ⟨a136, a137, a138, a139⟩ | ⟨a140, a141, a142, a143⟩
          · have _q : True := trivial
            refine jx_ld (pc' := 25) (l' := L84) (st' := [.ref 66]) rfl (jl_aloadn gL84_0) ?_
            refine jx_ar (pc' := 26) (st' := [.ref 66, .ref 66]) rfl rfl rfl rfl ?_
            refine jr_get (pc' := 29) (i := 15) (v := .int (i32 (op2_47))) rfl rfl (by decide) (rFv_eq (by decide) (show G120 15 = op2_47 from ((hF126.1 15 rfl).trans (e57)))) rfl ?_
            refine jx_ar (pc' := 30) (st' := [.int (i32 (1)), .int (i32 (op2_47)), .ref 66]) rfl rfl rfl rfl ?_
            refine jx_sub (pc' := 31) rfl rfl ?_
            refine jr_put (pc' := 34) (i := 15) (z := (op2_47 - 1)) rfl rfl (by decide) rfl rfl rfl rfl rfl rfl ?_
            have hW144 : Wk (uG G120 15 ((op2_47 - 1))) A121 := Wk_g hW125 (show (-2147483648 : Int) ≤ (op2_47 - 1) by omega) (show (op2_47 - 1) ≤ (2147483647 : Int) by omega)
            have hF145 := Fr_g (z := (op2_47 - 1)) (i := 15) hF133 (by decide)
            have ec146 : ecn A121 ((uG G120 15 ((op2_47 - 1))) 31) = ec2_50 := ec135
            refine jx_ld (pc' := 35) (l' := L84) (st' := [.int (i32 (r44))]) rfl (jl_iloadn gL84_1) ?_
            refine jx_rt (v := some (.int (i32 (r44)))) rfl rfl rfl rfl rfl rfl ?_
            have z147 := tz_f (tk2_123)
            exact ⟨_, _, _, at2_122, fk2_124, (op2_47 - 1), nd2_48, tk2_123, ec2_50, rfl, rfl, hW144, hF145, hP134, by omega, (e127), (e129), rfl, ((hF126.1 31 rfl).trans (e58)), (e128), ec146, by omega, by omega, by omega, by omega, by omega, by omega, by first | exact Or.inl (⟨by omega, by omega, by omega⟩)⟩
          · have _q : True := trivial
            exfalso
            omega
      · have _q : True := trivial
        exfalso
        omega
      · have _q : True := trivial
        exfalso
        omega
    · have _q : True := trivial
      exfalso
      omega
  · have _q : True := trivial
    refine jx_ld (pc' := 5) (l' := [(0, .ref 66)]) (st' := [.ref 66]) rfl (jl_aloadn rfl) ?_
    refine jx_ar (pc' := 6) (st' := [.int (i32 (1)), .ref 66]) rfl rfl rfl rfl ?_
    refine jx_vr (pc' := 9) (as := [.int (i32 (1))]) (st := []) rfl rfl rfl rfl ⟨rfl, rfl, Nat.le_of_ble_eq_true rfl⟩ rfl rfl (c_need (dd := d) (hd := by omega) (hW := hW5) (g := 1) (ln := ln) (e_ln := show G1 9 = ln from ((hF6.1 9 rfl).trans (e_ln))) (le := le) (e_le := show A2 4 (ln).toNat = le from (congrFun (hF6.2 4 rfl) _).trans (e_le)) (at0 := at0) (e_at0 := show G1 10 = at0 from ((hF6.1 10 rfl).trans (e_at0))) (fk := fk2_3) (e_fk := show G1 16 = fk2_3 from (e7)) (tk0 := tk0) (e_tk0 := show G1 11 = tk0 from ((hF6.1 11 rfl).trans (e_tk0)))  (h_g := ⟨(by decide), (by decide)⟩)  (p_0 := by omega)) (fun o V' hq => ?_)
    obtain ⟨G148, A149, at2_150, tk2_151, fk2_152, rfl, rfl, hW153, hF154, e155, e156, e157, p158, p159, q160⟩ := hq
    have hF161 := Fr_tr hF11 hF154 (Fr_sub (by decide)) (Fr_sub (by decide))
    have hP162 := Pf_f hP12 hF154 (by decide)
    have ec163 : ecn A149 (G148 31) = ec := (ecn_f (hF154.2 15 rfl) (hF154.1 31 rfl)).trans ec13
    have bat2_150 : (0 : Int) ≤ at2_150 ∧ at2_150 ≤ 3002 := e155 ▸ hW153.1 10
    have ztk2_151 := tz_b tk2_151
    have btk2_151 : (0 : Int) ≤ tk2_151 ∧ tk2_151 ≤ 5 := e156 ▸ hW153.1 11
    have bfk2_152 : (0 : Int) ≤ fk2_152 ∧ fk2_152 ≤ 6 := e157 ▸ hW153.1 16
    refine .inl ⟨rfl, ?_⟩
    rcases q160 with ⟨a164, a165, a166, a167⟩ | ⟨a168, a169, a170, a171⟩
    · have _q : True := trivial
      refine jx_ld (pc' := 10) (l' := [(0, .ref 66)]) (st' := [.ref 66]) rfl (jl_aloadn rfl) ?_
      refine jx_vr (pc' := 13) (as := []) (st := []) rfl rfl rfl rfl ⟨rfl, rfl, Nat.le_of_ble_eq_true rfl⟩ rfl rfl (hE (dd := d) (hd := by omega) (hW := hW153)  (ln := ln) (e_ln := show G148 9 = ln from ((hF154.1 9 rfl).trans ((hF6.1 9 rfl).trans (e_ln)))) (le := le) (e_le := show A149 4 (ln).toNat = le from (congrFun ((hF154.2 4 rfl).trans (hF6.2 4 rfl)) _).trans (e_le)) (at0 := at2_150) (e_at0 := show G148 10 = at2_150 from (e155)) (fk := fk2_152) (e_fk := show G148 16 = fk2_152 from (e157)) (op0 := op2_4) (e_op0 := show G148 15 = op2_4 from ((hF154.1 15 rfl).trans (e8))) (nd := nd) (e_nd := show G148 31 = nd from ((hF154.1 31 rfl).trans ((hF6.1 31 rfl).trans (e_nd)))) (tk0 := tk2_151) (e_tk0 := show G148 11 = tk2_151 from (e156)) (ec := ec) (e_ec := show ecn A149 (G148 31) = ec from ec163) (i_SV := (SV_ext (((hF154.1 29 rfl).trans (hF6.1 29 rfl))) (((hF154.2 14 rfl).trans (hF6.2 14 rfl))) i_SV))   (p_0 := by omega) (p_1 := by omega) (p_2 := by omega) (p_3 := by omega) (p_4 := by omega) (p_5 := by omega)) (fun o V' hq => ?_)
      obtain ⟨G172, A173, r174, at2_175, fk2_176, op2_177, nd2_178, tk2_179, ec2_180, rfl, rfl, hW181, hF182, hQ183, b184, e185, e186, e187, e188, e189, e190, p191, p192, p193, p194, p195, p196, q197⟩ := hq
      have hF198 := Fr_tr hF161 hF182 (Fr_sub (by decide)) (Fr_sub (by decide))
      have hP199 := Pf_tr hP162 hQ183 (by omega)
      have bat2_175 : (0 : Int) ≤ at2_175 ∧ at2_175 ≤ 3002 := e185 ▸ hW181.1 10
      have bfk2_176 : (0 : Int) ≤ fk2_176 ∧ fk2_176 ≤ 6 := e186 ▸ hW181.1 16
      have bop2_177 : (-2147483648 : Int) ≤ op2_177 ∧ op2_177 ≤ 2147483647 := e187 ▸ hW181.1 15
      have bnd2_178 : (0 : Int) ≤ nd2_178 ∧ nd2_178 ≤ 6999 := e188 ▸ hW181.1 31
      have ztk2_179 := tz_b tk2_179
      have btk2_179 : (0 : Int) ≤ tk2_179 ∧ tk2_179 ≤ 5 := e189 ▸ hW181.1 11
      refine .inr ⟨_, rfl, ?_⟩
      rcases q197 with ⟨a200, a201, a202, a203, a204, a205⟩ | ⟨a206, a207, a208⟩ | ⟨a209, a210, a211, a212, a213⟩
      · have _q : True := trivial
        refine jx_ld (pc' := 14) (l' := jSto1 [(0, .ref 66)] 1 (.int (i32 (r174)))) (st' := []) rfl rfl ?_
        obtain ⟨L214, eL214⟩ : ∃ q, q = jSto1 [(0, .ref 66)] 1 (.int (i32 (r174))) := ⟨_, rfl⟩
        rw [← eL214]
        have gL214_0 : jGet L214 0 = some (.ref 66) := eL214 ▸ jg_ne (by decide) (rfl : jGet [(0, .ref 66)] 0 = some (.ref 66)) rfl
        have gL214_1 : jGet L214 1 = some (.int (i32 (r174))) := eL214 ▸ jg_eq
        refine jx_ld (pc' := 15) (l' := L214) (st' := [.ref 66]) rfl (jl_aloadn gL214_0) ?_
        refine jx_ld (pc' := 16) (l' := L214) (st' := [.ref 66, .ref 66]) rfl (jl_aloadn gL214_0) ?_
        refine jx_ar (pc' := 18) (st' := [.int (i32 (93)), .ref 66, .ref 66]) rfl rfl rfl rfl ?_
        have b215 : (-2147483648 : Int) ≤ G172 13 ∧ G172 13 ≤ 2147483647 := hW181.1 13
        refine jx_vr (pc' := 21) (as := [.int (i32 (93))]) (st := [.ref 66]) rfl rfl rfl rfl ⟨rfl, rfl, Nat.le_of_ble_eq_true rfl⟩ rfl rfl (c_is (dd := d) (hd := by omega) (hW := hW181) (k := 93) (tk := tk2_179) (e_tk := show G172 11 = tk2_179 from (e189)) (tn := G172 13) (e_tn := show G172 13 = G172 13 from rfl)  (h_k := ⟨(by decide), (by decide)⟩)  ) (fun o V' hq => ?_)
        obtain ⟨r216, rfl, rfl, b217, q218⟩ := hq
        refine .inr ⟨_, rfl, ?_⟩
        rcases q218 with ⟨rfl, a219, a220, a221⟩ | rfl
        · have _q : True := trivial
          refine jx_vr (pc' := 24) (as := [.int (i32 (1))]) (st := []) rfl rfl rfl rfl ⟨rfl, rfl, Nat.le_of_ble_eq_true rfl⟩ rfl rfl (c_need (dd := d) (hd := by omega) (hW := hW181) (g := 1) (ln := ln) (e_ln := show G172 9 = ln from ((hF182.1 9 rfl).trans ((hF154.1 9 rfl).trans ((hF6.1 9 rfl).trans (e_ln))))) (le := le) (e_le := show A173 4 (ln).toNat = le from (congrFun ((hF182.2 4 rfl).trans ((hF154.2 4 rfl).trans (hF6.2 4 rfl))) _).trans (e_le)) (at0 := at2_175) (e_at0 := show G172 10 = at2_175 from (e185)) (fk := fk2_176) (e_fk := show G172 16 = fk2_176 from (e186)) (tk0 := tk2_179) (e_tk0 := show G172 11 = tk2_179 from (e189))  (h_g := ⟨(by decide), (by decide)⟩)  (p_0 := by omega)) (fun o V' hq => ?_)
          obtain ⟨G222, A223, at2_224, tk2_225, fk2_226, rfl, rfl, hW227, hF228, e229, e230, e231, p232, p233, q234⟩ := hq
          have hF235 := Fr_tr hF198 hF228 (Fr_sub (by decide)) (Fr_sub (by decide))
          have hP236 := Pf_f hP199 hF228 (by decide)
          have ec237 : ecn A223 (G222 31) = ec2_180 := (ecn_f (hF228.2 15 rfl) (hF228.1 31 rfl)).trans e190
          have bat2_224 : (0 : Int) ≤ at2_224 ∧ at2_224 ≤ 3002 := e229 ▸ hW227.1 10
          have ztk2_225 := tz_b tk2_225
          have btk2_225 : (0 : Int) ≤ tk2_225 ∧ tk2_225 ≤ 5 := e230 ▸ hW227.1 11
          have bfk2_226 : (0 : Int) ≤ fk2_226 ∧ fk2_226 ≤ 6 := e231 ▸ hW227.1 16
          refine .inl ⟨rfl, ?_⟩
          rcases q234 with ⟨a238, a239, a240, a241⟩ | ⟨a242, a243, a244, a245⟩
          · have _q : True := trivial
            refine jx_ld (pc' := 25) (l' := L214) (st' := [.ref 66]) rfl (jl_aloadn gL214_0) ?_
            refine jx_ar (pc' := 26) (st' := [.ref 66, .ref 66]) rfl rfl rfl rfl ?_
            refine jr_get (pc' := 29) (i := 15) (v := .int (i32 (op2_177))) rfl rfl (by decide) (rFv_eq (by decide) (show G222 15 = op2_177 from ((hF228.1 15 rfl).trans (e187)))) rfl ?_
            refine jx_ar (pc' := 30) (st' := [.int (i32 (1)), .int (i32 (op2_177)), .ref 66]) rfl rfl rfl rfl ?_
            refine jx_sub (pc' := 31) rfl rfl ?_
            refine jr_put (pc' := 34) (i := 15) (z := (op2_177 - 1)) rfl rfl (by decide) rfl rfl rfl rfl rfl rfl ?_
            have hW246 : Wk (uG G222 15 ((op2_177 - 1))) A223 := Wk_g hW227 (show (-2147483648 : Int) ≤ (op2_177 - 1) by omega) (show (op2_177 - 1) ≤ (2147483647 : Int) by omega)
            have hF247 := Fr_g (z := (op2_177 - 1)) (i := 15) hF235 (by decide)
            have ec248 : ecn A223 ((uG G222 15 ((op2_177 - 1))) 31) = ec2_180 := ec237
            refine jx_ld (pc' := 35) (l' := L214) (st' := [.int (i32 (r174))]) rfl (jl_iloadn gL214_1) ?_
            refine jx_rt (v := some (.int (i32 (r174)))) rfl rfl rfl rfl rfl rfl ?_
            have z249 := tz_f (tk2_225)
            exact ⟨_, _, _, at2_224, fk2_226, (op2_177 - 1), nd2_178, tk2_225, ec2_180, rfl, rfl, hW246, hF247, hP236, by omega, (e229), (e231), rfl, ((hF228.1 31 rfl).trans (e188)), (e230), ec248, by omega, by omega, by omega, by omega, by omega, by omega, by first | exact Or.inl (⟨by omega, by omega, by omega⟩)⟩
          · have _q : True := trivial
            exfalso
            omega
        · have _q : True := trivial
          refine jx_vr (pc' := 24) (as := [.int (i32 (0))]) (st := []) rfl rfl rfl rfl ⟨rfl, rfl, Nat.le_of_ble_eq_true rfl⟩ rfl rfl (c_need (dd := d) (hd := by omega) (hW := hW181) (g := 0) (ln := ln) (e_ln := show G172 9 = ln from ((hF182.1 9 rfl).trans ((hF154.1 9 rfl).trans ((hF6.1 9 rfl).trans (e_ln))))) (le := le) (e_le := show A173 4 (ln).toNat = le from (congrFun ((hF182.2 4 rfl).trans ((hF154.2 4 rfl).trans (hF6.2 4 rfl))) _).trans (e_le)) (at0 := at2_175) (e_at0 := show G172 10 = at2_175 from (e185)) (fk := fk2_176) (e_fk := show G172 16 = fk2_176 from (e186)) (tk0 := tk2_179) (e_tk0 := show G172 11 = tk2_179 from (e189))  (h_g := ⟨(by decide), (by decide)⟩)  (p_0 := by omega)) (fun o V' hq => ?_)
          obtain ⟨G250, A251, at2_252, tk2_253, fk2_254, rfl, rfl, hW255, hF256, e257, e258, e259, p260, p261, q262⟩ := hq
          have hF263 := Fr_tr hF198 hF256 (Fr_sub (by decide)) (Fr_sub (by decide))
          have hP264 := Pf_f hP199 hF256 (by decide)
          have ec265 : ecn A251 (G250 31) = ec2_180 := (ecn_f (hF256.2 15 rfl) (hF256.1 31 rfl)).trans e190
          have bat2_252 : (0 : Int) ≤ at2_252 ∧ at2_252 ≤ 3002 := e257 ▸ hW255.1 10
          have ztk2_253 := tz_b tk2_253
          have btk2_253 : (0 : Int) ≤ tk2_253 ∧ tk2_253 ≤ 5 := e258 ▸ hW255.1 11
          have bfk2_254 : (0 : Int) ≤ fk2_254 ∧ fk2_254 ≤ 6 := e259 ▸ hW255.1 16
          refine .inl ⟨rfl, ?_⟩
          rcases q262 with ⟨a266, a267, a268, a269⟩ | ⟨a270, a271, a272, a273⟩
          · have _q : True := trivial
            refine jx_ld (pc' := 25) (l' := L214) (st' := [.ref 66]) rfl (jl_aloadn gL214_0) ?_
            refine jx_ar (pc' := 26) (st' := [.ref 66, .ref 66]) rfl rfl rfl rfl ?_
            refine jr_get (pc' := 29) (i := 15) (v := .int (i32 (op2_177))) rfl rfl (by decide) (rFv_eq (by decide) (show G250 15 = op2_177 from ((hF256.1 15 rfl).trans (e187)))) rfl ?_
            refine jx_ar (pc' := 30) (st' := [.int (i32 (1)), .int (i32 (op2_177)), .ref 66]) rfl rfl rfl rfl ?_
            refine jx_sub (pc' := 31) rfl rfl ?_
            refine jr_put (pc' := 34) (i := 15) (z := (op2_177 - 1)) rfl rfl (by decide) rfl rfl rfl rfl rfl rfl ?_
            have hW274 : Wk (uG G250 15 ((op2_177 - 1))) A251 := Wk_g hW255 (show (-2147483648 : Int) ≤ (op2_177 - 1) by omega) (show (op2_177 - 1) ≤ (2147483647 : Int) by omega)
            have hF275 := Fr_g (z := (op2_177 - 1)) (i := 15) hF263 (by decide)
            have ec276 : ecn A251 ((uG G250 15 ((op2_177 - 1))) 31) = ec2_180 := ec265
            refine jx_ld (pc' := 35) (l' := L214) (st' := [.int (i32 (r174))]) rfl (jl_iloadn gL214_1) ?_
            refine jx_rt (v := some (.int (i32 (r174)))) rfl rfl rfl rfl rfl rfl ?_
            have z277 := tz_f (tk2_253)
            exact ⟨_, _, _, at2_252, fk2_254, (op2_177 - 1), nd2_178, tk2_253, ec2_180, rfl, rfl, hW274, hF275, hP264, by omega, (e257), (e259), rfl, ((hF256.1 31 rfl).trans (e188)), (e258), ec276, by omega, by omega, by omega, by omega, by omega, by omega, by first | exact Or.inl (⟨by omega, by omega, by omega⟩)⟩
          · have _q : True := trivial
            exfalso
            omega
      · have _q : True := trivial
        exfalso
        omega
      · have _q : True := trivial
        exfalso
        omega
    · have _q : True := trivial
      refine jx_ld (pc' := 10) (l' := [(0, .ref 66)]) (st' := [.ref 66]) rfl (jl_aloadn rfl) ?_
      refine jx_vr (pc' := 13) (as := []) (st := []) rfl rfl rfl rfl ⟨rfl, rfl, Nat.le_of_ble_eq_true rfl⟩ rfl rfl (hE (dd := d) (hd := by omega) (hW := hW153)  (ln := ln) (e_ln := show G148 9 = ln from ((hF154.1 9 rfl).trans ((hF6.1 9 rfl).trans (e_ln)))) (le := le) (e_le := show A149 4 (ln).toNat = le from (congrFun ((hF154.2 4 rfl).trans (hF6.2 4 rfl)) _).trans (e_le)) (at0 := at2_150) (e_at0 := show G148 10 = at2_150 from (e155)) (fk := fk2_152) (e_fk := show G148 16 = fk2_152 from (e157)) (op0 := op2_4) (e_op0 := show G148 15 = op2_4 from ((hF154.1 15 rfl).trans (e8))) (nd := nd) (e_nd := show G148 31 = nd from ((hF154.1 31 rfl).trans ((hF6.1 31 rfl).trans (e_nd)))) (tk0 := tk2_151) (e_tk0 := show G148 11 = tk2_151 from (e156)) (ec := ec) (e_ec := show ecn A149 (G148 31) = ec from ec163) (i_SV := (SV_ext (((hF154.1 29 rfl).trans (hF6.1 29 rfl))) (((hF154.2 14 rfl).trans (hF6.2 14 rfl))) i_SV))   (p_0 := by omega) (p_1 := by omega) (p_2 := by omega) (p_3 := by omega) (p_4 := by omega) (p_5 := by omega)) (fun o V' hq => ?_)
      obtain ⟨G278, A279, r280, at2_281, fk2_282, op2_283, nd2_284, tk2_285, ec2_286, rfl, rfl, hW287, hF288, hQ289, b290, e291, e292, e293, e294, e295, e296, p297, p298, p299, p300, p301, p302, q303⟩ := hq
      have hF304 := Fr_tr hF161 hF288 (Fr_sub (by decide)) (Fr_sub (by decide))
      have hP305 := Pf_tr hP162 hQ289 (by omega)
      have bat2_281 : (0 : Int) ≤ at2_281 ∧ at2_281 ≤ 3002 := e291 ▸ hW287.1 10
      have bfk2_282 : (0 : Int) ≤ fk2_282 ∧ fk2_282 ≤ 6 := e292 ▸ hW287.1 16
      have bop2_283 : (-2147483648 : Int) ≤ op2_283 ∧ op2_283 ≤ 2147483647 := e293 ▸ hW287.1 15
      have bnd2_284 : (0 : Int) ≤ nd2_284 ∧ nd2_284 ≤ 6999 := e294 ▸ hW287.1 31
      have ztk2_285 := tz_b tk2_285
      have btk2_285 : (0 : Int) ≤ tk2_285 ∧ tk2_285 ≤ 5 := e295 ▸ hW287.1 11
      refine .inr ⟨_, rfl, ?_⟩
      rcases q303 with ⟨a306, a307, a308, a309, a310, a311⟩ | ⟨a312, a313, a314⟩ | ⟨a315, a316, a317, a318, a319⟩
      · have _q : True := trivial
        exfalso
        omega
      · have _q : True := trivial
        refine jx_ld (pc' := 14) (l' := jSto1 [(0, .ref 66)] 1 (.int (i32 (r280)))) (st' := []) rfl rfl ?_
        obtain ⟨L320, eL320⟩ : ∃ q, q = jSto1 [(0, .ref 66)] 1 (.int (i32 (r280))) := ⟨_, rfl⟩
        rw [← eL320]
        have gL320_0 : jGet L320 0 = some (.ref 66) := eL320 ▸ jg_ne (by decide) (rfl : jGet [(0, .ref 66)] 0 = some (.ref 66)) rfl
        have gL320_1 : jGet L320 1 = some (.int (i32 (r280))) := eL320 ▸ jg_eq
        refine jx_ld (pc' := 15) (l' := L320) (st' := [.ref 66]) rfl (jl_aloadn gL320_0) ?_
        refine jx_ld (pc' := 16) (l' := L320) (st' := [.ref 66, .ref 66]) rfl (jl_aloadn gL320_0) ?_
        refine jx_ar (pc' := 18) (st' := [.int (i32 (93)), .ref 66, .ref 66]) rfl rfl rfl rfl ?_
        have b321 : (-2147483648 : Int) ≤ G278 13 ∧ G278 13 ≤ 2147483647 := hW287.1 13
        refine jx_vr (pc' := 21) (as := [.int (i32 (93))]) (st := [.ref 66]) rfl rfl rfl rfl ⟨rfl, rfl, Nat.le_of_ble_eq_true rfl⟩ rfl rfl (c_is (dd := d) (hd := by omega) (hW := hW287) (k := 93) (tk := tk2_285) (e_tk := show G278 11 = tk2_285 from (e295)) (tn := G278 13) (e_tn := show G278 13 = G278 13 from rfl)  (h_k := ⟨(by decide), (by decide)⟩)  ) (fun o V' hq => ?_)
        obtain ⟨r322, rfl, rfl, b323, q324⟩ := hq
        refine .inr ⟨_, rfl, ?_⟩
        rcases q324 with ⟨rfl, a325, a326, a327⟩ | rfl
        · have _q : True := trivial
          refine jx_vr (pc' := 24) (as := [.int (i32 (1))]) (st := []) rfl rfl rfl rfl ⟨rfl, rfl, Nat.le_of_ble_eq_true rfl⟩ rfl rfl (c_need (dd := d) (hd := by omega) (hW := hW287) (g := 1) (ln := ln) (e_ln := show G278 9 = ln from ((hF288.1 9 rfl).trans ((hF154.1 9 rfl).trans ((hF6.1 9 rfl).trans (e_ln))))) (le := le) (e_le := show A279 4 (ln).toNat = le from (congrFun ((hF288.2 4 rfl).trans ((hF154.2 4 rfl).trans (hF6.2 4 rfl))) _).trans (e_le)) (at0 := at2_281) (e_at0 := show G278 10 = at2_281 from (e291)) (fk := fk2_282) (e_fk := show G278 16 = fk2_282 from (e292)) (tk0 := tk2_285) (e_tk0 := show G278 11 = tk2_285 from (e295))  (h_g := ⟨(by decide), (by decide)⟩)  (p_0 := by omega)) (fun o V' hq => ?_)
          obtain ⟨G328, A329, at2_330, tk2_331, fk2_332, rfl, rfl, hW333, hF334, e335, e336, e337, p338, p339, q340⟩ := hq
          have hF341 := Fr_tr hF304 hF334 (Fr_sub (by decide)) (Fr_sub (by decide))
          have hP342 := Pf_f hP305 hF334 (by decide)
          have ec343 : ecn A329 (G328 31) = ec2_286 := (ecn_f (hF334.2 15 rfl) (hF334.1 31 rfl)).trans e296
          have bat2_330 : (0 : Int) ≤ at2_330 ∧ at2_330 ≤ 3002 := e335 ▸ hW333.1 10
          have ztk2_331 := tz_b tk2_331
          have btk2_331 : (0 : Int) ≤ tk2_331 ∧ tk2_331 ≤ 5 := e336 ▸ hW333.1 11
          have bfk2_332 : (0 : Int) ≤ fk2_332 ∧ fk2_332 ≤ 6 := e337 ▸ hW333.1 16
          refine .inl ⟨rfl, ?_⟩
          rcases q340 with ⟨a344, a345, a346, a347⟩ | ⟨a348, a349, a350, a351⟩
          · have _q : True := trivial
            refine jx_ld (pc' := 25) (l' := L320) (st' := [.ref 66]) rfl (jl_aloadn gL320_0) ?_
            refine jx_ar (pc' := 26) (st' := [.ref 66, .ref 66]) rfl rfl rfl rfl ?_
            refine jr_get (pc' := 29) (i := 15) (v := .int (i32 (op2_283))) rfl rfl (by decide) (rFv_eq (by decide) (show G328 15 = op2_283 from ((hF334.1 15 rfl).trans (e293)))) rfl ?_
            refine jx_ar (pc' := 30) (st' := [.int (i32 (1)), .int (i32 (op2_283)), .ref 66]) rfl rfl rfl rfl ?_
            refine jx_sub (pc' := 31) rfl rfl ?_
            refine jr_put (pc' := 34) (i := 15) (z := (op2_283 - 1)) rfl rfl (by decide) rfl rfl rfl rfl rfl rfl ?_
            have hW352 : Wk (uG G328 15 ((op2_283 - 1))) A329 := Wk_g hW333 (show (-2147483648 : Int) ≤ (op2_283 - 1) by omega) (show (op2_283 - 1) ≤ (2147483647 : Int) by omega)
            have hF353 := Fr_g (z := (op2_283 - 1)) (i := 15) hF341 (by decide)
            have ec354 : ecn A329 ((uG G328 15 ((op2_283 - 1))) 31) = ec2_286 := ec343
            refine jx_ld (pc' := 35) (l' := L320) (st' := [.int (i32 (r280))]) rfl (jl_iloadn gL320_1) ?_
            refine jx_rt (v := some (.int (i32 (r280)))) rfl rfl rfl rfl rfl rfl ?_
            have z355 := tz_f (tk2_331)
            exact ⟨_, _, _, at2_330, fk2_332, (op2_283 - 1), nd2_284, tk2_331, ec2_286, rfl, rfl, hW352, hF353, hP342, by omega, (e335), (e337), rfl, ((hF334.1 31 rfl).trans (e294)), (e336), ec354, by omega, by omega, by omega, by omega, by omega, by omega, by first | exact Or.inl (⟨by omega, by omega, by omega⟩)⟩
          · have _q : True := trivial
            exfalso
            omega
        · have _q : True := trivial
          refine jx_vr (pc' := 24) (as := [.int (i32 (0))]) (st := []) rfl rfl rfl rfl ⟨rfl, rfl, Nat.le_of_ble_eq_true rfl⟩ rfl rfl (c_need (dd := d) (hd := by omega) (hW := hW287) (g := 0) (ln := ln) (e_ln := show G278 9 = ln from ((hF288.1 9 rfl).trans ((hF154.1 9 rfl).trans ((hF6.1 9 rfl).trans (e_ln))))) (le := le) (e_le := show A279 4 (ln).toNat = le from (congrFun ((hF288.2 4 rfl).trans ((hF154.2 4 rfl).trans (hF6.2 4 rfl))) _).trans (e_le)) (at0 := at2_281) (e_at0 := show G278 10 = at2_281 from (e291)) (fk := fk2_282) (e_fk := show G278 16 = fk2_282 from (e292)) (tk0 := tk2_285) (e_tk0 := show G278 11 = tk2_285 from (e295))  (h_g := ⟨(by decide), (by decide)⟩)  (p_0 := by omega)) (fun o V' hq => ?_)
          obtain ⟨G356, A357, at2_358, tk2_359, fk2_360, rfl, rfl, hW361, hF362, e363, e364, e365, p366, p367, q368⟩ := hq
          have hF369 := Fr_tr hF304 hF362 (Fr_sub (by decide)) (Fr_sub (by decide))
          have hP370 := Pf_f hP305 hF362 (by decide)
          have ec371 : ecn A357 (G356 31) = ec2_286 := (ecn_f (hF362.2 15 rfl) (hF362.1 31 rfl)).trans e296
          have bat2_358 : (0 : Int) ≤ at2_358 ∧ at2_358 ≤ 3002 := e363 ▸ hW361.1 10
          have ztk2_359 := tz_b tk2_359
          have btk2_359 : (0 : Int) ≤ tk2_359 ∧ tk2_359 ≤ 5 := e364 ▸ hW361.1 11
          have bfk2_360 : (0 : Int) ≤ fk2_360 ∧ fk2_360 ≤ 6 := e365 ▸ hW361.1 16
          refine .inl ⟨rfl, ?_⟩
          rcases q368 with ⟨a372, a373, a374, a375⟩ | ⟨a376, a377, a378, a379⟩
          · have _q : True := trivial
            refine jx_ld (pc' := 25) (l' := L320) (st' := [.ref 66]) rfl (jl_aloadn gL320_0) ?_
            refine jx_ar (pc' := 26) (st' := [.ref 66, .ref 66]) rfl rfl rfl rfl ?_
            refine jr_get (pc' := 29) (i := 15) (v := .int (i32 (op2_283))) rfl rfl (by decide) (rFv_eq (by decide) (show G356 15 = op2_283 from ((hF362.1 15 rfl).trans (e293)))) rfl ?_
            refine jx_ar (pc' := 30) (st' := [.int (i32 (1)), .int (i32 (op2_283)), .ref 66]) rfl rfl rfl rfl ?_
            refine jx_sub (pc' := 31) rfl rfl ?_
            refine jr_put (pc' := 34) (i := 15) (z := (op2_283 - 1)) rfl rfl (by decide) rfl rfl rfl rfl rfl rfl ?_
            have hW380 : Wk (uG G356 15 ((op2_283 - 1))) A357 := Wk_g hW361 (show (-2147483648 : Int) ≤ (op2_283 - 1) by omega) (show (op2_283 - 1) ≤ (2147483647 : Int) by omega)
            have hF381 := Fr_g (z := (op2_283 - 1)) (i := 15) hF369 (by decide)
            have ec382 : ecn A357 ((uG G356 15 ((op2_283 - 1))) 31) = ec2_286 := ec371
            refine jx_ld (pc' := 35) (l' := L320) (st' := [.int (i32 (r280))]) rfl (jl_iloadn gL320_1) ?_
            refine jx_rt (v := some (.int (i32 (r280)))) rfl rfl rfl rfl rfl rfl ?_
            have z383 := tz_f (tk2_359)
            exact ⟨_, _, _, at2_358, fk2_360, (op2_283 - 1), nd2_284, tk2_359, ec2_286, rfl, rfl, hW380, hF381, hP370, by omega, (e363), (e365), rfl, ((hF362.1 31 rfl).trans (e294)), (e364), ec382, by omega, by omega, by omega, by omega, by omega, by omega, by first | exact Or.inl (⟨by omega, by omega, by omega⟩)⟩
          · have _q : True := trivial
            exfalso
            omega
      · have _q : True := trivial
        refine jx_ld (pc' := 14) (l' := jSto1 [(0, .ref 66)] 1 (.int (i32 (r280)))) (st' := []) rfl rfl ?_
        obtain ⟨L384, eL384⟩ : ∃ q, q = jSto1 [(0, .ref 66)] 1 (.int (i32 (r280))) := ⟨_, rfl⟩
        rw [← eL384]
        have gL384_0 : jGet L384 0 = some (.ref 66) := eL384 ▸ jg_ne (by decide) (rfl : jGet [(0, .ref 66)] 0 = some (.ref 66)) rfl
        have gL384_1 : jGet L384 1 = some (.int (i32 (r280))) := eL384 ▸ jg_eq
        refine jx_ld (pc' := 15) (l' := L384) (st' := [.ref 66]) rfl (jl_aloadn gL384_0) ?_
        refine jx_ld (pc' := 16) (l' := L384) (st' := [.ref 66, .ref 66]) rfl (jl_aloadn gL384_0) ?_
        refine jx_ar (pc' := 18) (st' := [.int (i32 (93)), .ref 66, .ref 66]) rfl rfl rfl rfl ?_
        have b385 : (-2147483648 : Int) ≤ G278 13 ∧ G278 13 ≤ 2147483647 := hW287.1 13
        refine jx_vr (pc' := 21) (as := [.int (i32 (93))]) (st := [.ref 66]) rfl rfl rfl rfl ⟨rfl, rfl, Nat.le_of_ble_eq_true rfl⟩ rfl rfl (c_is (dd := d) (hd := by omega) (hW := hW287) (k := 93) (tk := tk2_285) (e_tk := show G278 11 = tk2_285 from (e295)) (tn := G278 13) (e_tn := show G278 13 = G278 13 from rfl)  (h_k := ⟨(by decide), (by decide)⟩)  ) (fun o V' hq => ?_)
        obtain ⟨r386, rfl, rfl, b387, q388⟩ := hq
        refine .inr ⟨_, rfl, ?_⟩
        rcases q388 with ⟨rfl, a389, a390, a391⟩ | rfl
        · have _q : True := trivial
          refine jx_vr (pc' := 24) (as := [.int (i32 (1))]) (st := []) rfl rfl rfl rfl ⟨rfl, rfl, Nat.le_of_ble_eq_true rfl⟩ rfl rfl (c_need (dd := d) (hd := by omega) (hW := hW287) (g := 1) (ln := ln) (e_ln := show G278 9 = ln from ((hF288.1 9 rfl).trans ((hF154.1 9 rfl).trans ((hF6.1 9 rfl).trans (e_ln))))) (le := le) (e_le := show A279 4 (ln).toNat = le from (congrFun ((hF288.2 4 rfl).trans ((hF154.2 4 rfl).trans (hF6.2 4 rfl))) _).trans (e_le)) (at0 := at2_281) (e_at0 := show G278 10 = at2_281 from (e291)) (fk := fk2_282) (e_fk := show G278 16 = fk2_282 from (e292)) (tk0 := tk2_285) (e_tk0 := show G278 11 = tk2_285 from (e295))  (h_g := ⟨(by decide), (by decide)⟩)  (p_0 := by omega)) (fun o V' hq => ?_)
          obtain ⟨G392, A393, at2_394, tk2_395, fk2_396, rfl, rfl, hW397, hF398, e399, e400, e401, p402, p403, q404⟩ := hq
          have hF405 := Fr_tr hF304 hF398 (Fr_sub (by decide)) (Fr_sub (by decide))
          have hP406 := Pf_f hP305 hF398 (by decide)
          have sf407 : wE A393 Vs sb (2 * k + 2) (r280) (nd) (nd2_284) := wE_ag (by omega) (Sg_fr hF398 (by decide)) (Ag_fr hF398 (by decide)) a318
          have ec408 : ecn A393 (G392 31) = ec2_286 := (ecn_f (hF398.2 15 rfl) (hF398.1 31 rfl)).trans e296
          have bat2_394 : (0 : Int) ≤ at2_394 ∧ at2_394 ≤ 3002 := e399 ▸ hW397.1 10
          have ztk2_395 := tz_b tk2_395
          have btk2_395 : (0 : Int) ≤ tk2_395 ∧ tk2_395 ≤ 5 := e400 ▸ hW397.1 11
          have bfk2_396 : (0 : Int) ≤ fk2_396 ∧ fk2_396 ≤ 6 := e401 ▸ hW397.1 16
          refine .inl ⟨rfl, ?_⟩
          rcases q404 with ⟨a409, a410, a411, a412⟩ | ⟨a413, a414, a415, a416⟩
          · have _q : True := trivial
            refine jx_ld (pc' := 25) (l' := L384) (st' := [.ref 66]) rfl (jl_aloadn gL384_0) ?_
            refine jx_ar (pc' := 26) (st' := [.ref 66, .ref 66]) rfl rfl rfl rfl ?_
            refine jr_get (pc' := 29) (i := 15) (v := .int (i32 (op2_283))) rfl rfl (by decide) (rFv_eq (by decide) (show G392 15 = op2_283 from ((hF398.1 15 rfl).trans (e293)))) rfl ?_
            refine jx_ar (pc' := 30) (st' := [.int (i32 (1)), .int (i32 (op2_283)), .ref 66]) rfl rfl rfl rfl ?_
            refine jx_sub (pc' := 31) rfl rfl ?_
            refine jr_put (pc' := 34) (i := 15) (z := (op2_283 - 1)) rfl rfl (by decide) rfl rfl rfl rfl rfl rfl ?_
            have hW417 : Wk (uG G392 15 ((op2_283 - 1))) A393 := Wk_g hW397 (show (-2147483648 : Int) ≤ (op2_283 - 1) by omega) (show (op2_283 - 1) ≤ (2147483647 : Int) by omega)
            have hF418 := Fr_g (z := (op2_283 - 1)) (i := 15) hF405 (by decide)
            have ec419 : ecn A393 ((uG G392 15 ((op2_283 - 1))) 31) = ec2_286 := ec408
            refine jx_ld (pc' := 35) (l' := L384) (st' := [.int (i32 (r280))]) rfl (jl_iloadn gL384_1) ?_
            refine jx_rt (v := some (.int (i32 (r280)))) rfl rfl rfl rfl rfl rfl ?_
            have z420 := tz_f (tk2_395)
            exact ⟨_, _, _, at2_394, fk2_396, (op2_283 - 1), nd2_284, tk2_395, ec2_286, rfl, rfl, hW417, hF418, hP406, by omega, (e399), (e401), rfl, ((hF398.1 31 rfl).trans (e294)), (e400), ec419, by omega, by omega, by omega, by omega, by omega, by omega, by first | exact Or.inl (⟨by omega, by omega, by omega⟩)⟩
          · have _q : True := trivial
            refine jx_ld (pc' := 25) (l' := L384) (st' := [.ref 66]) rfl (jl_aloadn gL384_0) ?_
            refine jx_ar (pc' := 26) (st' := [.ref 66, .ref 66]) rfl rfl rfl rfl ?_
            refine jr_get (pc' := 29) (i := 15) (v := .int (i32 (op2_283))) rfl rfl (by decide) (rFv_eq (by decide) (show G392 15 = op2_283 from ((hF398.1 15 rfl).trans (e293)))) rfl ?_
            refine jx_ar (pc' := 30) (st' := [.int (i32 (1)), .int (i32 (op2_283)), .ref 66]) rfl rfl rfl rfl ?_
            refine jx_sub (pc' := 31) rfl rfl ?_
            refine jr_put (pc' := 34) (i := 15) (z := (op2_283 - 1)) rfl rfl (by decide) rfl rfl rfl rfl rfl rfl ?_
            have hW421 : Wk (uG G392 15 ((op2_283 - 1))) A393 := Wk_g hW397 (show (-2147483648 : Int) ≤ (op2_283 - 1) by omega) (show (op2_283 - 1) ≤ (2147483647 : Int) by omega)
            have hF422 := Fr_g (z := (op2_283 - 1)) (i := 15) hF405 (by decide)
            have ec423 : ecn A393 ((uG G392 15 ((op2_283 - 1))) 31) = ec2_286 := ec408
            refine jx_ld (pc' := 35) (l' := L384) (st' := [.int (i32 (r280))]) rfl (jl_iloadn gL384_1) ?_
            refine jx_rt (v := some (.int (i32 (r280)))) rfl rfl rfl rfl rfl rfl ?_
            have z424 := tz_f (tk2_395)
            exact ⟨_, _, _, at2_394, fk2_396, (op2_283 - 1), nd2_284, tk2_395, ec2_286, rfl, rfl, hW421, hF422, hP406, by omega, (e399), (e401), rfl, ((hF398.1 31 rfl).trans (e294)), (e400), ec423, by omega, by omega, by omega, by omega, by omega, by omega, by first | exact Or.inr ((⟨by omega, by omega, by omega, sf407, by omega⟩))⟩
        · have _q : True := trivial
          refine jx_vr (pc' := 24) (as := [.int (i32 (0))]) (st := []) rfl rfl rfl rfl ⟨rfl, rfl, Nat.le_of_ble_eq_true rfl⟩ rfl rfl (c_need (dd := d) (hd := by omega) (hW := hW287) (g := 0) (ln := ln) (e_ln := show G278 9 = ln from ((hF288.1 9 rfl).trans ((hF154.1 9 rfl).trans ((hF6.1 9 rfl).trans (e_ln))))) (le := le) (e_le := show A279 4 (ln).toNat = le from (congrFun ((hF288.2 4 rfl).trans ((hF154.2 4 rfl).trans (hF6.2 4 rfl))) _).trans (e_le)) (at0 := at2_281) (e_at0 := show G278 10 = at2_281 from (e291)) (fk := fk2_282) (e_fk := show G278 16 = fk2_282 from (e292)) (tk0 := tk2_285) (e_tk0 := show G278 11 = tk2_285 from (e295))  (h_g := ⟨(by decide), (by decide)⟩)  (p_0 := by omega)) (fun o V' hq => ?_)
          obtain ⟨G425, A426, at2_427, tk2_428, fk2_429, rfl, rfl, hW430, hF431, e432, e433, e434, p435, p436, q437⟩ := hq
          have hF438 := Fr_tr hF304 hF431 (Fr_sub (by decide)) (Fr_sub (by decide))
          have hP439 := Pf_f hP305 hF431 (by decide)
          have sf440 : wE A426 Vs sb (2 * k + 2) (r280) (nd) (nd2_284) := wE_ag (by omega) (Sg_fr hF431 (by decide)) (Ag_fr hF431 (by decide)) a318
          have ec441 : ecn A426 (G425 31) = ec2_286 := (ecn_f (hF431.2 15 rfl) (hF431.1 31 rfl)).trans e296
          have bat2_427 : (0 : Int) ≤ at2_427 ∧ at2_427 ≤ 3002 := e432 ▸ hW430.1 10
          have ztk2_428 := tz_b tk2_428
          have btk2_428 : (0 : Int) ≤ tk2_428 ∧ tk2_428 ≤ 5 := e433 ▸ hW430.1 11
          have bfk2_429 : (0 : Int) ≤ fk2_429 ∧ fk2_429 ≤ 6 := e434 ▸ hW430.1 16
          refine .inl ⟨rfl, ?_⟩
          rcases q437 with ⟨a442, a443, a444, a445⟩ | ⟨a446, a447, a448, a449⟩
          · have _q : True := trivial
            refine jx_ld (pc' := 25) (l' := L384) (st' := [.ref 66]) rfl (jl_aloadn gL384_0) ?_
            refine jx_ar (pc' := 26) (st' := [.ref 66, .ref 66]) rfl rfl rfl rfl ?_
            refine jr_get (pc' := 29) (i := 15) (v := .int (i32 (op2_283))) rfl rfl (by decide) (rFv_eq (by decide) (show G425 15 = op2_283 from ((hF431.1 15 rfl).trans (e293)))) rfl ?_
            refine jx_ar (pc' := 30) (st' := [.int (i32 (1)), .int (i32 (op2_283)), .ref 66]) rfl rfl rfl rfl ?_
            refine jx_sub (pc' := 31) rfl rfl ?_
            refine jr_put (pc' := 34) (i := 15) (z := (op2_283 - 1)) rfl rfl (by decide) rfl rfl rfl rfl rfl rfl ?_
            have hW450 : Wk (uG G425 15 ((op2_283 - 1))) A426 := Wk_g hW430 (show (-2147483648 : Int) ≤ (op2_283 - 1) by omega) (show (op2_283 - 1) ≤ (2147483647 : Int) by omega)
            have hF451 := Fr_g (z := (op2_283 - 1)) (i := 15) hF438 (by decide)
            have ec452 : ecn A426 ((uG G425 15 ((op2_283 - 1))) 31) = ec2_286 := ec441
            refine jx_ld (pc' := 35) (l' := L384) (st' := [.int (i32 (r280))]) rfl (jl_iloadn gL384_1) ?_
            refine jx_rt (v := some (.int (i32 (r280)))) rfl rfl rfl rfl rfl rfl ?_
            have z453 := tz_f (tk2_428)
            exact ⟨_, _, _, at2_427, fk2_429, (op2_283 - 1), nd2_284, tk2_428, ec2_286, rfl, rfl, hW450, hF451, hP439, by omega, (e432), (e434), rfl, ((hF431.1 31 rfl).trans (e294)), (e433), ec452, by omega, by omega, by omega, by omega, by omega, by omega, by first | exact Or.inl (⟨by omega, by omega, by omega⟩)⟩
          · have _q : True := trivial
            exfalso
            omega
set_option maxRecDepth 20000 in
set_option maxHeartbeats 4000000 in
theorem c_readValue_w {X : jX} {k : Nat} (hE : REw X k) {dd : Nat} {Vs : Nat → Prop} {sb : Int} {c0 c1 : jC} {G : Nat → Int} {A : Nat → Nat → Int} {T : jH} {s place : Int} {ln le at0 fk op0 nd tk0 ec : Int} (hd : 6 * k + 13 ≤ dd) (hW : Wk G A) (e_ln : G 9 = ln) (e_le : A 4 (ln).toNat = le) (e_at0 : G 10 = at0) (e_fk : G 16 = fk) (e_op0 : G 15 = op0) (e_nd : G 31 = nd) (e_tk0 : G 11 = tk0) (e_ec : ecn A (G 31) = ec) (i_SV : SV Vs sb G A) (h_s : (-2147483648 : Int) ≤ s ∧ s ≤ 2147483647) (h_place : (-2147483648 : Int) ≤ place ∧ place ≤ 2147483647) (p_0 : 0 ≤ op0) (p_1 : op0 ≤ 9) (p_2 : op0 ≤ 8 ∨ 1 ≤ fk) (p_3 : 9 - op0 ≤ ((k + 1 : Nat) : Int) ∨ 1 ≤ fk) (p_4 : nd ≤ 2 * at0 - tz tk0 + 50) (p_5 : at0 ≤ le) (p_6 : op0 ≤ 8) (p_7 : fk = 0) (p_8 : 0 ≤ s ∧ s ≤ 201) (p_9 : -3000 ≤ place ∧ place ≤ 3002) (p_10 : SY Vs sb (s)) : wk X dd 289 [.ref 66, .int (i32 s), .int (i32 place)] (rV c0 c1 G A T) (fun o V' => ∃ (G' : Nat → Int) (A' : Nat → Nat → Int) (r : Int) (at2 : Int) (fk2 : Int) (op2 : Int) (nd2 : Int) (tk2 : Int) (ec2 : Int), V' = rV c0 c1 G' A' T ∧ o = .inl (some (.int (i32 r))) ∧ Wk G' A' ∧ Fr [10, 11, 12, 13, 14, 15, 16, 17, 18, 31] [15, 16, 17, 18, 19, 20, 21, 22, 24, 28] G A G' A' ∧ Pf nd A A' ∧ ((-2147483648 : Int) ≤ r ∧ r ≤ 2147483647) ∧ G' 10 = at2 ∧ G' 16 = fk2 ∧ G' 15 = op2 ∧ G' 31 = nd2 ∧ G' 11 = tk2 ∧ ecn A' (G' 31) = ec2 ∧ (at0 ≤ at2) ∧ (at2 ≤ le) ∧ (nd ≤ nd2) ∧ (op2 = op0) ∧ (0 ≤ r) ∧ (r ≤ nd2) ∧ (((fk = 0) ∧ (1 ≤ fk2) ∧ (nd2 - nd ≤ (2 * at2 - tz tk2) - (2 * at0 - tz tk0) + 2)) ∨ ((fk = 0) ∧ (fk2 = 0) ∧ (nd2 - nd ≤ (2 * at2 - tz tk2) - (2 * at0 - tz tk0) + 1) ∧ (wE A' Vs sb (2 * k + 3) (r) (nd) (nd2)) ∧ (nd2 - nd + 5 * (ec2 - ec) ≤ (2 * at2 - tz tk2) - (2 * at0 - tz tk0) + 1 + tz tk0 - tz tk2)))) := by
  obtain ⟨d, rfl⟩ : ∃ d, dd = d + 1 := ⟨dd - 1, by omega⟩
  refine wk_of (e := jm289) rfl (Nat.le_of_ble_eq_true rfl) ?_
  show wj X d jm289 (0, [(0, .ref 66), (1, .int (i32 (s))), (2, .int (i32 (place)))], [], rV c0 c1 G A T) _
  have hF0 : Fr [10, 11, 12, 13, 14, 15, 16, 17, 18, 31] [15, 16, 17, 18, 19, 20, 21, 22, 24, 28] G A G A := Fr_rf
  have hP0 : Pf nd A A := Pf_rf
  have b_ln : (0 : Int) ≤ ln ∧ ln ≤ 3000 := e_ln ▸ hW.1 9
  have b_le : (0 : Int) ≤ le ∧ le ≤ 3000 := e_le ▸ hW.2 4 _
  have b_at0 : (0 : Int) ≤ at0 ∧ at0 ≤ 3002 := e_at0 ▸ hW.1 10
  have b_fk : (0 : Int) ≤ fk ∧ fk ≤ 6 := e_fk ▸ hW.1 16
  have b_op0 : (-2147483648 : Int) ≤ op0 ∧ op0 ≤ 2147483647 := e_op0 ▸ hW.1 15
  have b_nd : (0 : Int) ≤ nd ∧ nd ≤ 6999 := e_nd ▸ hW.1 31
  have z_tk0 := tz_f tk0
  have b_tk0 : (0 : Int) ≤ tk0 ∧ tk0 ≤ 5 := e_tk0 ▸ hW.1 11
  refine jx_ld (pc' := 1) (l' := [(0, .ref 66), (1, .int (i32 (s))), (2, .int (i32 (place)))]) (st' := [.ref 66]) rfl (jl_aloadn rfl) ?_
  refine jx_ar (pc' := 3) (st' := [.int (i32 (91)), .ref 66]) rfl rfl rfl rfl ?_
  have b1 : (-2147483648 : Int) ≤ G 13 ∧ G 13 ≤ 2147483647 := hW.1 13
  refine jx_vr (pc' := 6) (as := [.int (i32 (91))]) (st := []) rfl rfl rfl rfl ⟨rfl, rfl, Nat.le_of_ble_eq_true rfl⟩ rfl rfl (c_is (dd := d) (hd := by omega) (hW := hW) (k := 91) (tk := tk0) (e_tk := show G 11 = tk0 from (e_tk0)) (tn := G 13) (e_tn := show G 13 = G 13 from rfl)  (h_k := ⟨(by decide), (by decide)⟩)  ) (fun o V' hq => ?_)
  obtain ⟨r2, rfl, rfl, b3, q4⟩ := hq
  refine .inr ⟨_, rfl, ?_⟩
  rcases q4 with ⟨rfl, a5, a6, a7⟩ | rfl
  · have _q : True := trivial
    refine jx_if_eq (pc' := 9) (tg := 44) rfl rfl rfl (by decide) (by decide) (fun h8 => ?_) (fun h8 => ?_)
    · have _q := h8
      exact absurd h8 (by omega)
    · have _q := h8
      refine jx_ld (pc' := 10) (l' := [(0, .ref 66), (1, .int (i32 (s))), (2, .int (i32 (place)))]) (st' := [.ref 66]) rfl (jl_aloadn rfl) ?_
      refine jr_get (pc' := 13) (i := 21) (v := .ref 74) rfl rfl (by decide) rfl rfl ?_
      refine jx_ld (pc' := 14) (l' := [(0, .ref 66), (1, .int (i32 (s))), (2, .int (i32 (place)))]) (st' := [.int (i32 (s)), .ref 74]) rfl (jl_iloadn rfl) ?_
      have b9 : (0 : Int) ≤ A 7 (s).toNat ∧ A 7 (s).toNat ≤ 14 := hW.2 7 _
      refine jr_ldv (pc' := 15) (i := 7) (m := 260) (z := s) (y := A 7 (s).toNat) rfl (by decide) rfl (by decide) (by omega) (by omega) rfl (show A 7 (s).toNat = A 7 (s).toNat from rfl) ?_
      refine jx_st (pc' := 18) (as := [.int (i32 (A 7 (s).toNat))]) (st := []) rfl rfl ⟨rfl, Nat.le_of_ble_eq_true rfl⟩ rfl rfl rfl (c_isArray (dd := d) (hd := by omega) (k := A 7 (s).toNat)   (h_k := ⟨(Int.le_trans (by decide : (-2147483648 : Int) ≤ 0) b9.1), (Int.le_trans b9.2 (by decide : (14 : Int) ≤ 2147483647))⟩)  ) (fun o V' hq => ?_)
      obtain ⟨r10, rfl, rfl, b11, q12⟩ := hq
      refine .inr ⟨_, rfl, ?_⟩
      rcases q12 with ⟨rfl, a13⟩ | rfl
      · have _q : True := trivial
        refine jx_if_ne (pc' := 21) (tg := 29) rfl rfl rfl (by decide) (by decide) (fun h14 => ?_) (fun h14 => ?_)
        · have _q := h14
          refine jx_ld (pc' := 30) (l' := [(0, .ref 66), (1, .int (i32 (s))), (2, .int (i32 (place)))]) (st' := [.ref 66]) rfl (jl_aloadn rfl) ?_
          refine jx_vr (pc' := 33) (as := []) (st := []) rfl rfl rfl rfl ⟨rfl, rfl, Nat.le_of_ble_eq_true rfl⟩ rfl rfl (c_readIndex_w (dd := d) (hE := hE) (hd := by omega) (hW := hW)  (ln := ln) (e_ln := show G 9 = ln from (e_ln)) (le := le) (e_le := show A 4 (ln).toNat = le from (e_le)) (at0 := at0) (e_at0 := show G 10 = at0 from (e_at0)) (fk := fk) (e_fk := show G 16 = fk from (e_fk)) (op0 := op0) (e_op0 := show G 15 = op0 from (e_op0)) (nd := nd) (e_nd := show G 31 = nd from (e_nd)) (tk0 := tk0) (e_tk0 := show G 11 = tk0 from (e_tk0)) (ec := ec) (e_ec := show ecn A (G 31) = ec from e_ec) (i_SV := (SV_ext (rfl) (rfl) i_SV))   (p_0 := by omega) (p_1 := by omega) (p_2 := by omega) (p_3 := by omega) (p_4 := by omega) (p_5 := by omega) (p_6 := by omega) (p_7 := by omega) (p_8 := by omega)) (fun o V' hq => ?_)
          obtain ⟨G15, A16, r17, at2_18, fk2_19, op2_20, nd2_21, tk2_22, ec2_23, rfl, rfl, hW24, hF25, hQ26, b27, e28, e29, e30, e31, e32, e33, p34, p35, p36, p37, p38, p39, q40⟩ := hq
          have hF41 := Fr_tr hF0 hF25 (Fr_sub (by decide)) (Fr_sub (by decide))
          have hP42 := Pf_tr hP0 hQ26 (by omega)
          have bat2_18 : (0 : Int) ≤ at2_18 ∧ at2_18 ≤ 3002 := e28 ▸ hW24.1 10
          have bfk2_19 : (0 : Int) ≤ fk2_19 ∧ fk2_19 ≤ 6 := e29 ▸ hW24.1 16
          have bop2_20 : (-2147483648 : Int) ≤ op2_20 ∧ op2_20 ≤ 2147483647 := e30 ▸ hW24.1 15
          have bnd2_21 : (0 : Int) ≤ nd2_21 ∧ nd2_21 ≤ 6999 := e31 ▸ hW24.1 31
          have ztk2_22 := tz_b tk2_22
          have btk2_22 : (0 : Int) ≤ tk2_22 ∧ tk2_22 ≤ 5 := e32 ▸ hW24.1 11
          refine .inr ⟨_, rfl, ?_⟩
          rcases q40 with ⟨a43, a44, a45⟩ | ⟨a46, a47, a48, a49, a50⟩
          · have _q : True := trivial
            refine jx_ld (pc' := 34) (l' := jSto1 [(0, .ref 66), (1, .int (i32 (s))), (2, .int (i32 (place)))] 3 (.int (i32 (r17)))) (st' := []) rfl rfl ?_
            obtain ⟨L51, eL51⟩ : ∃ q, q = jSto1 [(0, .ref 66), (1, .int (i32 (s))), (2, .int (i32 (place)))] 3 (.int (i32 (r17))) := ⟨_, rfl⟩
            rw [← eL51]
            have gL51_0 : jGet L51 0 = some (.ref 66) := eL51 ▸ jg_ne (by decide) (rfl : jGet [(0, .ref 66), (1, .int (i32 (s))), (2, .int (i32 (place)))] 0 = some (.ref 66)) rfl
            have gL51_1 : jGet L51 1 = some (.int (i32 (s))) := eL51 ▸ jg_ne (by decide) (rfl : jGet [(0, .ref 66), (1, .int (i32 (s))), (2, .int (i32 (place)))] 1 = some (.int (i32 (s)))) rfl
            have gL51_2 : jGet L51 2 = some (.int (i32 (place))) := eL51 ▸ jg_ne (by decide) (rfl : jGet [(0, .ref 66), (1, .int (i32 (s))), (2, .int (i32 (place)))] 2 = some (.int (i32 (place)))) rfl
            have gL51_3 : jGet L51 3 = some (.int (i32 (r17))) := eL51 ▸ jg_eq
            refine jx_ld (pc' := 35) (l' := L51) (st' := [.ref 66]) rfl (jl_aloadn gL51_0) ?_
            refine jx_ar (pc' := 36) (st' := [.int (i32 (3)), .ref 66]) rfl rfl rfl rfl ?_
            refine jx_ld (pc' := 37) (l' := L51) (st' := [.int (i32 (s)), .int (i32 (3)), .ref 66]) rfl (jl_iloadn gL51_1) ?_
            refine jx_ld (pc' := 38) (l' := L51) (st' := [.int (i32 (r17)), .int (i32 (s)), .int (i32 (3)), .ref 66]) rfl (jl_iloadn gL51_3) ?_
            refine jx_ar (pc' := 39) (st' := [.int (i32 (0)), .int (i32 (r17)), .int (i32 (s)), .int (i32 (3)), .ref 66]) rfl rfl rfl rfl ?_
            refine jx_ar (pc' := 40) (st' := [.int (i32 (0)), .int (i32 (0)), .int (i32 (r17)), .int (i32 (s)), .int (i32 (3)), .ref 66]) rfl rfl rfl rfl ?_
            refine jx_vr (pc' := 43) (as := [.int (i32 (3)), .int (i32 (s)), .int (i32 (r17)), .int (i32 (0)), .int (i32 (0))]) (st := []) rfl rfl rfl rfl ⟨rfl, rfl, Nat.le_of_ble_eq_true rfl⟩ rfl rfl (c_node_e (dd := d) (hd := by omega) (hW := hW24) (kind := 3) (a := s) (b := r17) (c := 0) (e := 0) (nd := nd2_21) (e_nd := show G15 31 = nd2_21 from (e31)) (ec := ec2_23) (e_ec := show ecn A16 (G15 31) = ec2_23 from e33)  (h_kind := ⟨(by decide), (by decide)⟩) (h_a := ⟨(Int.le_trans (by decide : (-2147483648 : Int) ≤ -2147483648) h_s.1), (Int.le_trans h_s.2 (by decide : (2147483647 : Int) ≤ 2147483647))⟩) (h_b := ⟨(Int.le_trans (by decide : (-2147483648 : Int) ≤ -2147483648) b27.1), (Int.le_trans b27.2 (by decide : (2147483647 : Int) ≤ 2147483647))⟩) (h_c := ⟨(by decide), (by decide)⟩) (h_e := ⟨(by decide), (by decide)⟩)  (p_0 := by omega) (p_1 := by omega) (p_2 := by omega)) (fun o V' hq => ?_)
            obtain ⟨G52, A53, nd2_54, ec2_55, rfl, rfl, hW56, hF57, hQ58, e59, e60, p61, p62, p63, -⟩ := hq
            have hF65 := Fr_tr hF41 hF57 (Fr_sub (by decide)) (Fr_sub (by decide))
            have hP66 := Pf_tr hP42 hQ58 (by omega)
            have bnd2_54 : (0 : Int) ≤ nd2_54 ∧ nd2_54 ≤ 6999 := e59 ▸ hW56.1 31
            refine .inr ⟨_, rfl, ?_⟩
            refine jx_rt (v := some (.int (i32 (nd2_21)))) rfl rfl rfl rfl rfl rfl ?_
            have z67 := tz_f (tk2_22)
            exact ⟨_, _, _, at2_18, fk2_19, op2_20, nd2_54, tk2_22, ec2_55, rfl, rfl, hW56, hF65, hP66, by omega, ((hF57.1 10 rfl).trans (e28)), ((hF57.1 16 rfl).trans (e29)), ((hF57.1 15 rfl).trans (e30)), (e59), ((hF57.1 11 rfl).trans (e32)), e60, by omega, by omega, by omega, by omega, by omega, by omega, by first | exact Or.inl (⟨by omega, by omega, by omega⟩)⟩
          · have _q : True := trivial
            refine jx_ld (pc' := 34) (l' := jSto1 [(0, .ref 66), (1, .int (i32 (s))), (2, .int (i32 (place)))] 3 (.int (i32 (r17)))) (st' := []) rfl rfl ?_
            obtain ⟨L68, eL68⟩ : ∃ q, q = jSto1 [(0, .ref 66), (1, .int (i32 (s))), (2, .int (i32 (place)))] 3 (.int (i32 (r17))) := ⟨_, rfl⟩
            rw [← eL68]
            have gL68_0 : jGet L68 0 = some (.ref 66) := eL68 ▸ jg_ne (by decide) (rfl : jGet [(0, .ref 66), (1, .int (i32 (s))), (2, .int (i32 (place)))] 0 = some (.ref 66)) rfl
            have gL68_1 : jGet L68 1 = some (.int (i32 (s))) := eL68 ▸ jg_ne (by decide) (rfl : jGet [(0, .ref 66), (1, .int (i32 (s))), (2, .int (i32 (place)))] 1 = some (.int (i32 (s)))) rfl
            have gL68_2 : jGet L68 2 = some (.int (i32 (place))) := eL68 ▸ jg_ne (by decide) (rfl : jGet [(0, .ref 66), (1, .int (i32 (s))), (2, .int (i32 (place)))] 2 = some (.int (i32 (place)))) rfl
            have gL68_3 : jGet L68 3 = some (.int (i32 (r17))) := eL68 ▸ jg_eq
            refine jx_ld (pc' := 35) (l' := L68) (st' := [.ref 66]) rfl (jl_aloadn gL68_0) ?_
            refine jx_ar (pc' := 36) (st' := [.int (i32 (3)), .ref 66]) rfl rfl rfl rfl ?_
            refine jx_ld (pc' := 37) (l' := L68) (st' := [.int (i32 (s)), .int (i32 (3)), .ref 66]) rfl (jl_iloadn gL68_1) ?_
            refine jx_ld (pc' := 38) (l' := L68) (st' := [.int (i32 (r17)), .int (i32 (s)), .int (i32 (3)), .ref 66]) rfl (jl_iloadn gL68_3) ?_
            refine jx_ar (pc' := 39) (st' := [.int (i32 (0)), .int (i32 (r17)), .int (i32 (s)), .int (i32 (3)), .ref 66]) rfl rfl rfl rfl ?_
            refine jx_ar (pc' := 40) (st' := [.int (i32 (0)), .int (i32 (0)), .int (i32 (r17)), .int (i32 (s)), .int (i32 (3)), .ref 66]) rfl rfl rfl rfl ?_
            refine jx_vr (pc' := 43) (as := [.int (i32 (3)), .int (i32 (s)), .int (i32 (r17)), .int (i32 (0)), .int (i32 (0))]) (st := []) rfl rfl rfl rfl ⟨rfl, rfl, Nat.le_of_ble_eq_true rfl⟩ rfl rfl (c_node_e (dd := d) (hd := by omega) (hW := hW24) (kind := 3) (a := s) (b := r17) (c := 0) (e := 0) (nd := nd2_21) (e_nd := show G15 31 = nd2_21 from (e31)) (ec := ec2_23) (e_ec := show ecn A16 (G15 31) = ec2_23 from e33)  (h_kind := ⟨(by decide), (by decide)⟩) (h_a := ⟨(Int.le_trans (by decide : (-2147483648 : Int) ≤ -2147483648) h_s.1), (Int.le_trans h_s.2 (by decide : (2147483647 : Int) ≤ 2147483647))⟩) (h_b := ⟨(Int.le_trans (by decide : (-2147483648 : Int) ≤ -2147483648) b27.1), (Int.le_trans b27.2 (by decide : (2147483647 : Int) ≤ 2147483647))⟩) (h_c := ⟨(by decide), (by decide)⟩) (h_e := ⟨(by decide), (by decide)⟩)  (p_0 := by omega) (p_1 := by omega) (p_2 := by omega)) (fun o V' hq => ?_)
            obtain ⟨G69, A70, nd2_71, ec2_72, rfl, rfl, hW73, hF74, hQ75, e76, e77, p78, p79, p80, -⟩ := hq
            have hF82 := Fr_tr hF41 hF74 (Fr_sub (by decide)) (Fr_sub (by decide))
            have hP83 := Pf_tr hP42 hQ75 (by omega)
            have sf84 : wE A70 Vs sb (2 * k + 2) (r17) (nd) (nd2_21) := wE_ag (by omega) (Sg_fr hF74 (by decide)) (Ag_pf hQ75 (by omega)) a49
            have bnd2_71 : (0 : Int) ≤ nd2_71 ∧ nd2_71 ≤ 6999 := e76 ▸ hW73.1 31
            refine .inr ⟨_, rfl, ?_⟩
            refine jx_rt (v := some (.int (i32 (nd2_21)))) rfl rfl rfl rfl rfl rfl ?_
            have z85 := tz_f (tk2_22)
            exact ⟨_, _, _, at2_18, fk2_19, op2_20, nd2_71, tk2_22, ec2_72, rfl, rfl, hW73, hF82, hP83, by omega, ((hF74.1 10 rfl).trans (e28)), ((hF74.1 16 rfl).trans (e29)), ((hF74.1 15 rfl).trans (e30)), (e76), ((hF74.1 11 rfl).trans (e32)), e77, by omega, by omega, by omega, by omega, by omega, by omega, by first | exact Or.inr ((⟨by omega, by omega, by omega, (wE_elem p80 (by omega) (by omega) p_10 (kq (P := kArr) (show A70 7 (s).toNat = A 7 (s).toNat from (congrFun ((hF74.2 7 rfl).trans (hF25.2 7 rfl)) _)) a13) (wE_mono (by omega) (by omega) (by omega) sf84)), by omega⟩))⟩
        · have _q := h14
          exact absurd h14 (by omega)
      · have _q : True := trivial
        refine jx_if_ne (pc' := 21) (tg := 29) rfl rfl rfl (by decide) (by decide) (fun h86 => ?_) (fun h86 => ?_)
        · have _q := h86
          exact absurd h86 (by omega)
        · have _q := h86
          refine jx_ld (pc' := 22) (l' := [(0, .ref 66), (1, .int (i32 (s))), (2, .int (i32 (place)))]) (st' := [.ref 66]) rfl (jl_aloadn rfl) ?_
          refine jx_ar (pc' := 23) (st' := [.int (i32 (4)), .ref 66]) rfl rfl rfl rfl ?_
          refine jx_ld (pc' := 24) (l' := [(0, .ref 66), (1, .int (i32 (s))), (2, .int (i32 (place)))]) (st' := [.int (i32 (place)), .int (i32 (4)), .ref 66]) rfl (jl_iloadn rfl) ?_
          refine jx_vr (pc' := 27) (as := [.int (i32 (4)), .int (i32 (place))]) (st := []) rfl rfl rfl rfl ⟨rfl, rfl, Nat.le_of_ble_eq_true rfl⟩ rfl rfl (c_fail (dd := d) (hd := by omega) (hW := hW) (kind := 4) (place := place) (fk := fk) (e_fk := show G 16 = fk from (e_fk))  (h_kind := ⟨(by decide), (by decide)⟩) (h_place := ⟨(Int.le_trans (by decide : (-2147483648 : Int) ≤ -2147483648) h_place.1), (Int.le_trans h_place.2 (by decide : (2147483647 : Int) ≤ 2147483647))⟩)  (p_0 := by omega) (p_1 := by omega)) (fun o V' hq => ?_)
          obtain ⟨G87, A88, fk2_89, rfl, rfl, hW90, hF91, e92, p93, -⟩ := hq
          have hF95 := Fr_tr hF0 hF91 (Fr_sub (by decide)) (Fr_sub (by decide))
          have hP96 := Pf_f hP0 hF91 (by decide)
          have ec97 : ecn A88 (G87 31) = ec := (ecn_f (hF91.2 15 rfl) (hF91.1 31 rfl)).trans e_ec
          have bfk2_89 : (0 : Int) ≤ fk2_89 ∧ fk2_89 ≤ 6 := e92 ▸ hW90.1 16
          refine .inl ⟨rfl, ?_⟩
          refine jx_ar (pc' := 28) (st' := [.int (i32 (0))]) rfl rfl rfl rfl ?_
          refine jx_rt (v := some (.int (i32 (0)))) rfl rfl rfl rfl rfl rfl ?_
          have z98 := tz_f (tk0)
          exact ⟨_, _, _, at0, fk2_89, op0, nd, tk0, ec, rfl, rfl, hW90, hF95, hP96, by omega, ((hF91.1 10 rfl).trans (e_at0)), (e92), ((hF91.1 15 rfl).trans (e_op0)), ((hF91.1 31 rfl).trans (e_nd)), ((hF91.1 11 rfl).trans (e_tk0)), ec97, by omega, by omega, by omega, by omega, by omega, by omega, by first | exact Or.inl (⟨by omega, by omega, by omega⟩)⟩
  · have _q : True := trivial
    refine jx_if_eq (pc' := 9) (tg := 44) rfl rfl rfl (by decide) (by decide) (fun h99 => ?_) (fun h99 => ?_)
    · have _q := h99
      refine jx_ld (pc' := 45) (l' := [(0, .ref 66), (1, .int (i32 (s))), (2, .int (i32 (place)))]) (st' := [.ref 66]) rfl (jl_aloadn rfl) ?_
      refine jr_get (pc' := 48) (i := 21) (v := .ref 74) rfl rfl (by decide) rfl rfl ?_
      refine jx_ld (pc' := 49) (l' := [(0, .ref 66), (1, .int (i32 (s))), (2, .int (i32 (place)))]) (st' := [.int (i32 (s)), .ref 74]) rfl (jl_iloadn rfl) ?_
      have b100 : (0 : Int) ≤ A 7 (s).toNat ∧ A 7 (s).toNat ≤ 14 := hW.2 7 _
      refine jr_ldv (pc' := 50) (i := 7) (m := 260) (z := s) (y := A 7 (s).toNat) rfl (by decide) rfl (by decide) (by omega) (by omega) rfl (show A 7 (s).toNat = A 7 (s).toNat from rfl) ?_
      refine jx_st (pc' := 53) (as := [.int (i32 (A 7 (s).toNat))]) (st := []) rfl rfl ⟨rfl, Nat.le_of_ble_eq_true rfl⟩ rfl rfl rfl (c_isValue (dd := d) (hd := by omega) (k := A 7 (s).toNat)   (h_k := ⟨(Int.le_trans (by decide : (-2147483648 : Int) ≤ 0) b100.1), (Int.le_trans b100.2 (by decide : (14 : Int) ≤ 2147483647))⟩)  ) (fun o V' hq => ?_)
      obtain ⟨r101, rfl, rfl, b102, q103⟩ := hq
      refine .inr ⟨_, rfl, ?_⟩
      rcases q103 with ⟨rfl, a104⟩ | rfl
      · have _q : True := trivial
        refine jx_if_ne (pc' := 56) (tg := 64) rfl rfl rfl (by decide) (by decide) (fun h105 => ?_) (fun h105 => ?_)
        · have _q := h105
          refine jx_ld (pc' := 65) (l' := [(0, .ref 66), (1, .int (i32 (s))), (2, .int (i32 (place)))]) (st' := [.ref 66]) rfl (jl_aloadn rfl) ?_
          refine jx_ar (pc' := 66) (st' := [.int (i32 (2)), .ref 66]) rfl rfl rfl rfl ?_
          refine jx_ld (pc' := 67) (l' := [(0, .ref 66), (1, .int (i32 (s))), (2, .int (i32 (place)))]) (st' := [.int (i32 (s)), .int (i32 (2)), .ref 66]) rfl (jl_iloadn rfl) ?_
          refine jx_ar (pc' := 68) (st' := [.int (i32 (0)), .int (i32 (s)), .int (i32 (2)), .ref 66]) rfl rfl rfl rfl ?_
          refine jx_ar (pc' := 69) (st' := [.int (i32 (0)), .int (i32 (0)), .int (i32 (s)), .int (i32 (2)), .ref 66]) rfl rfl rfl rfl ?_
          refine jx_ar (pc' := 70) (st' := [.int (i32 (0)), .int (i32 (0)), .int (i32 (0)), .int (i32 (s)), .int (i32 (2)), .ref 66]) rfl rfl rfl rfl ?_
          refine jx_vr (pc' := 73) (as := [.int (i32 (2)), .int (i32 (s)), .int (i32 (0)), .int (i32 (0)), .int (i32 (0))]) (st := []) rfl rfl rfl rfl ⟨rfl, rfl, Nat.le_of_ble_eq_true rfl⟩ rfl rfl (c_node_o (dd := d) (hd := by omega) (hW := hW) (kind := 2) (a := s) (b := 0) (c := 0) (e := 0) (nd := nd) (e_nd := show G 31 = nd from (e_nd)) (ec := ec) (e_ec := show ecn A (G 31) = ec from e_ec)  (h_kind := ⟨(by decide), (by decide)⟩) (h_a := ⟨(Int.le_trans (by decide : (-2147483648 : Int) ≤ -2147483648) h_s.1), (Int.le_trans h_s.2 (by decide : (2147483647 : Int) ≤ 2147483647))⟩) (h_b := ⟨(by decide), (by decide)⟩) (h_c := ⟨(by decide), (by decide)⟩) (h_e := ⟨(by decide), (by decide)⟩)  (p_0 := by omega) (p_1 := by omega) (p_2 := by omega)) (fun o V' hq => ?_)
          obtain ⟨G106, A107, nd2_108, ec2_109, rfl, rfl, hW110, hF111, hQ112, e113, e114, p115, p116, p117, -⟩ := hq
          have hF119 := Fr_tr hF0 hF111 (Fr_sub (by decide)) (Fr_sub (by decide))
          have hP120 := Pf_tr hP0 hQ112 (by omega)
          have bnd2_108 : (0 : Int) ≤ nd2_108 ∧ nd2_108 ≤ 6999 := e113 ▸ hW110.1 31
          refine .inr ⟨_, rfl, ?_⟩
          refine jx_rt (v := some (.int (i32 (nd)))) rfl rfl rfl rfl rfl rfl ?_
          have z121 := tz_f (tk0)
          exact ⟨_, _, _, at0, fk, op0, nd2_108, tk0, ec2_109, rfl, rfl, hW110, hF119, hP120, by omega, ((hF111.1 10 rfl).trans (e_at0)), ((hF111.1 16 rfl).trans (e_fk)), ((hF111.1 15 rfl).trans (e_op0)), (e113), ((hF111.1 11 rfl).trans (e_tk0)), e114, by omega, by omega, by omega, by omega, by omega, by omega, by first | exact Or.inr ((⟨by omega, by omega, by omega, (wE_var p117 (by omega) (by omega) p_10 (kq (P := kVal) (show A107 7 (s).toNat = A 7 (s).toNat from (congrFun (hF111.2 7 rfl) _)) a104)), by omega⟩))⟩
        · have _q := h105
          exact absurd h105 (by omega)
      · have _q : True := trivial
        refine jx_if_ne (pc' := 56) (tg := 64) rfl rfl rfl (by decide) (by decide) (fun h122 => ?_) (fun h122 => ?_)
        · have _q := h122
          exact absurd h122 (by omega)
        · have _q := h122
          refine jx_ld (pc' := 57) (l' := [(0, .ref 66), (1, .int (i32 (s))), (2, .int (i32 (place)))]) (st' := [.ref 66]) rfl (jl_aloadn rfl) ?_
          refine jx_ar (pc' := 58) (st' := [.int (i32 (4)), .ref 66]) rfl rfl rfl rfl ?_
          refine jx_ld (pc' := 59) (l' := [(0, .ref 66), (1, .int (i32 (s))), (2, .int (i32 (place)))]) (st' := [.int (i32 (place)), .int (i32 (4)), .ref 66]) rfl (jl_iloadn rfl) ?_
          refine jx_vr (pc' := 62) (as := [.int (i32 (4)), .int (i32 (place))]) (st := []) rfl rfl rfl rfl ⟨rfl, rfl, Nat.le_of_ble_eq_true rfl⟩ rfl rfl (c_fail (dd := d) (hd := by omega) (hW := hW) (kind := 4) (place := place) (fk := fk) (e_fk := show G 16 = fk from (e_fk))  (h_kind := ⟨(by decide), (by decide)⟩) (h_place := ⟨(Int.le_trans (by decide : (-2147483648 : Int) ≤ -2147483648) h_place.1), (Int.le_trans h_place.2 (by decide : (2147483647 : Int) ≤ 2147483647))⟩)  (p_0 := by omega) (p_1 := by omega)) (fun o V' hq => ?_)
          obtain ⟨G123, A124, fk2_125, rfl, rfl, hW126, hF127, e128, p129, -⟩ := hq
          have hF131 := Fr_tr hF0 hF127 (Fr_sub (by decide)) (Fr_sub (by decide))
          have hP132 := Pf_f hP0 hF127 (by decide)
          have ec133 : ecn A124 (G123 31) = ec := (ecn_f (hF127.2 15 rfl) (hF127.1 31 rfl)).trans e_ec
          have bfk2_125 : (0 : Int) ≤ fk2_125 ∧ fk2_125 ≤ 6 := e128 ▸ hW126.1 16
          refine .inl ⟨rfl, ?_⟩
          refine jx_ar (pc' := 63) (st' := [.int (i32 (0))]) rfl rfl rfl rfl ?_
          refine jx_rt (v := some (.int (i32 (0)))) rfl rfl rfl rfl rfl rfl ?_
          have z134 := tz_f (tk0)
          exact ⟨_, _, _, at0, fk2_125, op0, nd, tk0, ec, rfl, rfl, hW126, hF131, hP132, by omega, ((hF127.1 10 rfl).trans (e_at0)), (e128), ((hF127.1 15 rfl).trans (e_op0)), ((hF127.1 31 rfl).trans (e_nd)), ((hF127.1 11 rfl).trans (e_tk0)), ec133, by omega, by omega, by omega, by omega, by omega, by omega, by first | exact Or.inl (⟨by omega, by omega, by omega⟩)⟩
    · have _q := h99
      exact absurd h99 (by omega)
set_option maxRecDepth 20000 in
set_option maxHeartbeats 4000000 in
theorem c_readOperand_w {X : jX} {k : Nat} (hE : REw X k) {dd : Nat} {Vs : Nat → Prop} {sb : Int} {c0 c1 : jC} {G : Nat → Int} {A : Nat → Nat → Int} {T : jH} {ln le at0 fk op0 nd tk0 ec : Int} (hd : 6 * k + 14 ≤ dd) (hW : Wk G A) (e_ln : G 9 = ln) (e_le : A 4 (ln).toNat = le) (e_at0 : G 10 = at0) (e_fk : G 16 = fk) (e_op0 : G 15 = op0) (e_nd : G 31 = nd) (e_tk0 : G 11 = tk0) (e_ec : ecn A (G 31) = ec) (i_SV : SV Vs sb G A) (p_0 : 0 ≤ op0) (p_1 : op0 ≤ 9) (p_2 : op0 ≤ 8 ∨ 1 ≤ fk) (p_3 : 9 - op0 ≤ ((k + 1 : Nat) : Int) ∨ 1 ≤ fk) (p_4 : nd ≤ 2 * at0 - tz tk0 + 50) (p_5 : at0 ≤ le) : wk X dd 288 [.ref 66] (rV c0 c1 G A T) (fun o V' => ∃ (G' : Nat → Int) (A' : Nat → Nat → Int) (r : Int) (at2 : Int) (fk2 : Int) (op2 : Int) (nd2 : Int) (tk2 : Int) (ec2 : Int), V' = rV c0 c1 G' A' T ∧ o = .inl (some (.int (i32 r))) ∧ Wk G' A' ∧ Fr [10, 11, 12, 13, 14, 15, 16, 17, 18, 31] [15, 16, 17, 18, 19, 20, 21, 22, 24, 28] G A G' A' ∧ Pf nd A A' ∧ ((-2147483648 : Int) ≤ r ∧ r ≤ 2147483647) ∧ G' 10 = at2 ∧ G' 16 = fk2 ∧ G' 15 = op2 ∧ G' 31 = nd2 ∧ G' 11 = tk2 ∧ ecn A' (G' 31) = ec2 ∧ (at0 ≤ at2) ∧ (at2 ≤ le) ∧ (nd ≤ nd2) ∧ (op2 = op0) ∧ (0 ≤ r) ∧ (r ≤ nd2) ∧ (((1 ≤ fk) ∧ (1 ≤ fk2) ∧ (nd2 = nd) ∧ (at2 = at0) ∧ (tk2 = tk0) ∧ (tz tk2 = tz tk0)) ∨ ((fk = 0) ∧ (1 ≤ fk2) ∧ (nd2 - nd ≤ (2 * at2 - tz tk2) - (2 * at0 - tz tk0) + 1)) ∨ ((fk = 0) ∧ (fk2 = 0) ∧ (nd2 - nd ≤ (2 * at2 - tz tk2) - (2 * at0 - tz tk0)) ∧ (wE A' Vs sb (2 * k + 3) (r) (nd) (nd2)) ∧ (nd2 - nd + 5 * (ec2 - ec) ≤ (2 * at2 - tz tk2) - (2 * at0 - tz tk0) - tz tk2)))) := by
  obtain ⟨d, rfl⟩ : ∃ d, dd = d + 1 := ⟨dd - 1, by omega⟩
  refine wk_of (e := jm288) rfl (Nat.le_of_ble_eq_true rfl) ?_
  show wj X d jm288 (0, [(0, .ref 66)], [], rV c0 c1 G A T) _
  have hF0 : Fr [10, 11, 12, 13, 14, 15, 16, 17, 18, 31] [15, 16, 17, 18, 19, 20, 21, 22, 24, 28] G A G A := Fr_rf
  have hP0 : Pf nd A A := Pf_rf
  have b_ln : (0 : Int) ≤ ln ∧ ln ≤ 3000 := e_ln ▸ hW.1 9
  have b_le : (0 : Int) ≤ le ∧ le ≤ 3000 := e_le ▸ hW.2 4 _
  have b_at0 : (0 : Int) ≤ at0 ∧ at0 ≤ 3002 := e_at0 ▸ hW.1 10
  have b_fk : (0 : Int) ≤ fk ∧ fk ≤ 6 := e_fk ▸ hW.1 16
  have b_op0 : (-2147483648 : Int) ≤ op0 ∧ op0 ≤ 2147483647 := e_op0 ▸ hW.1 15
  have b_nd : (0 : Int) ≤ nd ∧ nd ≤ 6999 := e_nd ▸ hW.1 31
  have z_tk0 := tz_f tk0
  have b_tk0 : (0 : Int) ≤ tk0 ∧ tk0 ≤ 5 := e_tk0 ▸ hW.1 11
  refine jx_ld (pc' := 1) (l' := [(0, .ref 66)]) (st' := [.ref 66]) rfl (jl_aloadn rfl) ?_
  refine jx_vr (pc' := 4) (as := []) (st := []) rfl rfl rfl rfl ⟨rfl, rfl, Nat.le_of_ble_eq_true rfl⟩ rfl rfl (c_bad (dd := d) (hd := by omega) (hW := hW)  (fk := fk) (e_fk := show G 16 = fk from (e_fk))    ) (fun o V' hq => ?_)
  obtain ⟨r1, rfl, rfl, b2, q3⟩ := hq
  refine .inr ⟨_, rfl, ?_⟩
  rcases q3 with ⟨rfl, a4⟩ | ⟨rfl, a5⟩
  · have _q : True := trivial
    refine jx_if_eq (pc' := 7) (tg := 9) rfl rfl rfl (by decide) (by decide) (fun h6 => ?_) (fun h6 => ?_)
    · have _q := h6
      exact absurd h6 (by omega)
    · have _q := h6
      refine jx_ar (pc' := 8) (st' := [.int (i32 (0))]) rfl rfl rfl rfl ?_
      refine jx_rt (v := some (.int (i32 (0)))) rfl rfl rfl rfl rfl rfl ?_
      have z7 := tz_f (tk0)
      exact ⟨_, _, _, at0, fk, op0, nd, tk0, ec, rfl, rfl, hW, hF0, hP0, by omega, (e_at0), (e_fk), (e_op0), (e_nd), (e_tk0), e_ec, by omega, by omega, by omega, by omega, by omega, by omega, by first | exact Or.inl (⟨by omega, by omega, by omega, by omega, by omega, by omega⟩)⟩
  · have _q : True := trivial
    refine jx_if_eq (pc' := 7) (tg := 9) rfl rfl rfl (by decide) (by decide) (fun h8 => ?_) (fun h8 => ?_)
    · have _q := h8
      refine jx_ld (pc' := 10) (l' := [(0, .ref 66)]) (st' := [.ref 66]) rfl (jl_aloadn rfl) ?_
      have z9 := tz_f (tk0)
      refine jr_get (pc' := 13) (i := 11) (v := .int (i32 (tk0))) rfl rfl (by decide) (rFv_eq (by decide) (show G 11 = tk0 from (e_tk0))) rfl ?_
      refine jx_ar (pc' := 14) (st' := [.int (i32 (3)), .int (i32 (tk0))]) rfl rfl rfl rfl ?_
      refine jx_icmp_eq (pc' := 17) (tg := 35) rfl rfl rfl (Int.le_trans (by decide : (-2147483648 : Int) ≤ 0) b_tk0.1) (Int.le_trans b_tk0.2 (by decide : (5 : Int) ≤ 2147483647)) (by decide) (by decide) (fun h10 => ?_) (fun h10 => ?_)
      · have _q := h10
        refine jx_ld (pc' := 36) (l' := [(0, .ref 66)]) (st' := [.ref 66]) rfl (jl_aloadn rfl) ?_
        have z11 := tz_f (tk0)
        refine jr_get (pc' := 39) (i := 11) (v := .int (i32 (tk0))) rfl rfl (by decide) (rFv_eq (by decide) (show G 11 = tk0 from (e_tk0))) rfl ?_
        refine jx_ar (pc' := 40) (st' := [.int (i32 (3)), .int (i32 (tk0))]) rfl rfl rfl rfl ?_
        refine jx_icmp_ne (pc' := 43) (tg := 50) rfl rfl rfl (Int.le_trans (by decide : (-2147483648 : Int) ≤ 0) b_tk0.1) (Int.le_trans b_tk0.2 (by decide : (5 : Int) ≤ 2147483647)) (by decide) (by decide) (fun h12 => ?_) (fun h12 => ?_)
        · have _q := h12
          refine jx_ld (pc' := 51) (l' := [(0, .ref 66)]) (st' := [.ref 66]) rfl (jl_aloadn rfl) ?_
          refine jx_ar (pc' := 53) (st' := [.int (i32 (14)), .ref 66]) rfl rfl rfl rfl ?_
          have b13 : (-2147483648 : Int) ≤ G 13 ∧ G 13 ≤ 2147483647 := hW.1 13
          refine jx_vr (pc' := 56) (as := [.int (i32 (14))]) (st := []) rfl rfl rfl rfl ⟨rfl, rfl, Nat.le_of_ble_eq_true rfl⟩ rfl rfl (c_isKey (dd := d) (hd := by omega) (hW := hW) (k := 14) (tk := tk0) (e_tk := show G 11 = tk0 from (e_tk0)) (tn := G 13) (e_tn := show G 13 = G 13 from rfl)  (h_k := ⟨(by decide), (by decide)⟩)  ) (fun o V' hq => ?_)
          obtain ⟨r14, rfl, rfl, b15, q16⟩ := hq
          refine .inr ⟨_, rfl, ?_⟩
          rcases q16 with ⟨rfl, a17, a18, a19⟩ | rfl
          · have _q : True := trivial
            refine jx_if_eq (pc' := 59) (tg := 63) rfl rfl rfl (by decide) (by decide) (fun h20 => ?_) (fun h20 => ?_)
            · have _q := h20
              exact absurd h20 (by omega)
            · have _q := h20
              refine jx_ar (pc' := 60) (st' := [.int (i32 (1))]) rfl rfl rfl rfl ?_
              refine jx_go (tg := 64) rfl rfl ?_
              refine jx_ld (pc' := 65) (l' := jSto1 [(0, .ref 66)] 1 (.int (i32 (1)))) (st' := []) rfl rfl ?_
              obtain ⟨L21, eL21⟩ : ∃ q, q = jSto1 [(0, .ref 66)] 1 (.int (i32 (1))) := ⟨_, rfl⟩
              rw [← eL21]
              have gL21_0 : jGet L21 0 = some (.ref 66) := eL21 ▸ jg_ne (by decide) (rfl : jGet [(0, .ref 66)] 0 = some (.ref 66)) rfl
              have gL21_1 : jGet L21 1 = some (.int (i32 (1))) := eL21 ▸ jg_eq
              refine jx_ld (pc' := 66) (l' := L21) (st' := [.ref 66]) rfl (jl_aloadn gL21_0) ?_
              refine jx_vr (pc' := 69) (as := []) (st := []) rfl rfl rfl rfl ⟨rfl, rfl, Nat.le_of_ble_eq_true rfl⟩ rfl rfl (c_next (dd := d) (hd := by omega) (hW := hW)  (ln := ln) (e_ln := show G 9 = ln from (e_ln)) (le := le) (e_le := show A 4 (ln).toNat = le from (e_le)) (at0 := at0) (e_at0 := show G 10 = at0 from (e_at0))    (p_0 := by omega)) (fun o V' hq => ?_)
              obtain ⟨G22, A23, at2_24, tk2_25, rfl, rfl, hW26, hF27, e28, e29, p30, p31, p32, -⟩ := hq
              have hF34 := Fr_tr hF0 hF27 (Fr_sub (by decide)) (Fr_sub (by decide))
              have hP35 := Pf_f hP0 hF27 (by decide)
              have ec36 : ecn A23 (G22 31) = ec := (ecn_f (hF27.2 15 rfl) (hF27.1 31 rfl)).trans e_ec
              have bat2_24 : (0 : Int) ≤ at2_24 ∧ at2_24 ≤ 3002 := e28 ▸ hW26.1 10
              have ztk2_25 := tz_b tk2_25
              have btk2_25 : (0 : Int) ≤ tk2_25 ∧ tk2_25 ≤ 5 := e29 ▸ hW26.1 11
              refine .inl ⟨rfl, ?_⟩
              refine jx_ld (pc' := 70) (l' := L21) (st' := [.ref 66]) rfl (jl_aloadn gL21_0) ?_
              refine jx_ar (pc' := 71) (st' := [.int (i32 (1)), .ref 66]) rfl rfl rfl rfl ?_
              refine jx_ld (pc' := 72) (l' := L21) (st' := [.int (i32 (1)), .int (i32 (1)), .ref 66]) rfl (jl_iloadn gL21_1) ?_
              refine jx_ar (pc' := 73) (st' := [.int (i32 (0)), .int (i32 (1)), .int (i32 (1)), .ref 66]) rfl rfl rfl rfl ?_
              refine jx_ar (pc' := 74) (st' := [.int (i32 (0)), .int (i32 (0)), .int (i32 (1)), .int (i32 (1)), .ref 66]) rfl rfl rfl rfl ?_
              refine jx_ar (pc' := 75) (st' := [.int (i32 (0)), .int (i32 (0)), .int (i32 (0)), .int (i32 (1)), .int (i32 (1)), .ref 66]) rfl rfl rfl rfl ?_
              refine jx_vr (pc' := 78) (as := [.int (i32 (1)), .int (i32 (1)), .int (i32 (0)), .int (i32 (0)), .int (i32 (0))]) (st := []) rfl rfl rfl rfl ⟨rfl, rfl, Nat.le_of_ble_eq_true rfl⟩ rfl rfl (c_node_o (dd := d) (hd := by omega) (hW := hW26) (kind := 1) (a := 1) (b := 0) (c := 0) (e := 0) (nd := nd) (e_nd := show G22 31 = nd from ((hF27.1 31 rfl).trans (e_nd))) (ec := ec) (e_ec := show ecn A23 (G22 31) = ec from ec36)  (h_kind := ⟨(by decide), (by decide)⟩) (h_a := ⟨(by decide), (by decide)⟩) (h_b := ⟨(by decide), (by decide)⟩) (h_c := ⟨(by decide), (by decide)⟩) (h_e := ⟨(by decide), (by decide)⟩)  (p_0 := by omega) (p_1 := by omega) (p_2 := by omega)) (fun o V' hq => ?_)
              obtain ⟨G37, A38, nd2_39, ec2_40, rfl, rfl, hW41, hF42, hQ43, e44, e45, p46, p47, p48, -⟩ := hq
              have hF50 := Fr_tr hF34 hF42 (Fr_sub (by decide)) (Fr_sub (by decide))
              have hP51 := Pf_tr hP35 hQ43 (by omega)
              have bnd2_39 : (0 : Int) ≤ nd2_39 ∧ nd2_39 ≤ 6999 := e44 ▸ hW41.1 31
              refine .inr ⟨_, rfl, ?_⟩
              refine jx_rt (v := some (.int (i32 (nd)))) rfl rfl rfl rfl rfl rfl ?_
              have z52 := tz_f (tk2_25)
              exact ⟨_, _, _, at2_24, fk, op0, nd2_39, tk2_25, ec2_40, rfl, rfl, hW41, hF50, hP51, by omega, ((hF42.1 10 rfl).trans (e28)), ((hF42.1 16 rfl).trans ((hF27.1 16 rfl).trans (e_fk))), ((hF42.1 15 rfl).trans ((hF27.1 15 rfl).trans (e_op0))), (e44), ((hF42.1 11 rfl).trans (e29)), e45, by omega, by omega, by omega, by omega, by omega, by omega, by first | exact Or.inr (Or.inr ((⟨by omega, by omega, by omega, (wE_num p48 (by omega) (by omega)), by omega⟩)))⟩
          · have _q : True := trivial
            refine jx_if_eq (pc' := 59) (tg := 63) rfl rfl rfl (by decide) (by decide) (fun h53 => ?_) (fun h53 => ?_)
            · have _q := h53
              refine jx_ar (pc' := 64) (st' := [.int (i32 (0))]) rfl rfl rfl rfl ?_
              refine jx_ld (pc' := 65) (l' := jSto1 [(0, .ref 66)] 1 (.int (i32 (0)))) (st' := []) rfl rfl ?_
              obtain ⟨L54, eL54⟩ : ∃ q, q = jSto1 [(0, .ref 66)] 1 (.int (i32 (0))) := ⟨_, rfl⟩
              rw [← eL54]
              have gL54_0 : jGet L54 0 = some (.ref 66) := eL54 ▸ jg_ne (by decide) (rfl : jGet [(0, .ref 66)] 0 = some (.ref 66)) rfl
              have gL54_1 : jGet L54 1 = some (.int (i32 (0))) := eL54 ▸ jg_eq
              refine jx_ld (pc' := 66) (l' := L54) (st' := [.ref 66]) rfl (jl_aloadn gL54_0) ?_
              refine jx_vr (pc' := 69) (as := []) (st := []) rfl rfl rfl rfl ⟨rfl, rfl, Nat.le_of_ble_eq_true rfl⟩ rfl rfl (c_next (dd := d) (hd := by omega) (hW := hW)  (ln := ln) (e_ln := show G 9 = ln from (e_ln)) (le := le) (e_le := show A 4 (ln).toNat = le from (e_le)) (at0 := at0) (e_at0 := show G 10 = at0 from (e_at0))    (p_0 := by omega)) (fun o V' hq => ?_)
              obtain ⟨G55, A56, at2_57, tk2_58, rfl, rfl, hW59, hF60, e61, e62, p63, p64, p65, -⟩ := hq
              have hF67 := Fr_tr hF0 hF60 (Fr_sub (by decide)) (Fr_sub (by decide))
              have hP68 := Pf_f hP0 hF60 (by decide)
              have ec69 : ecn A56 (G55 31) = ec := (ecn_f (hF60.2 15 rfl) (hF60.1 31 rfl)).trans e_ec
              have bat2_57 : (0 : Int) ≤ at2_57 ∧ at2_57 ≤ 3002 := e61 ▸ hW59.1 10
              have ztk2_58 := tz_b tk2_58
              have btk2_58 : (0 : Int) ≤ tk2_58 ∧ tk2_58 ≤ 5 := e62 ▸ hW59.1 11
              refine .inl ⟨rfl, ?_⟩
              refine jx_ld (pc' := 70) (l' := L54) (st' := [.ref 66]) rfl (jl_aloadn gL54_0) ?_
              refine jx_ar (pc' := 71) (st' := [.int (i32 (1)), .ref 66]) rfl rfl rfl rfl ?_
              refine jx_ld (pc' := 72) (l' := L54) (st' := [.int (i32 (0)), .int (i32 (1)), .ref 66]) rfl (jl_iloadn gL54_1) ?_
              refine jx_ar (pc' := 73) (st' := [.int (i32 (0)), .int (i32 (0)), .int (i32 (1)), .ref 66]) rfl rfl rfl rfl ?_
              refine jx_ar (pc' := 74) (st' := [.int (i32 (0)), .int (i32 (0)), .int (i32 (0)), .int (i32 (1)), .ref 66]) rfl rfl rfl rfl ?_
              refine jx_ar (pc' := 75) (st' := [.int (i32 (0)), .int (i32 (0)), .int (i32 (0)), .int (i32 (0)), .int (i32 (1)), .ref 66]) rfl rfl rfl rfl ?_
              refine jx_vr (pc' := 78) (as := [.int (i32 (1)), .int (i32 (0)), .int (i32 (0)), .int (i32 (0)), .int (i32 (0))]) (st := []) rfl rfl rfl rfl ⟨rfl, rfl, Nat.le_of_ble_eq_true rfl⟩ rfl rfl (c_node_o (dd := d) (hd := by omega) (hW := hW59) (kind := 1) (a := 0) (b := 0) (c := 0) (e := 0) (nd := nd) (e_nd := show G55 31 = nd from ((hF60.1 31 rfl).trans (e_nd))) (ec := ec) (e_ec := show ecn A56 (G55 31) = ec from ec69)  (h_kind := ⟨(by decide), (by decide)⟩) (h_a := ⟨(by decide), (by decide)⟩) (h_b := ⟨(by decide), (by decide)⟩) (h_c := ⟨(by decide), (by decide)⟩) (h_e := ⟨(by decide), (by decide)⟩)  (p_0 := by omega) (p_1 := by omega) (p_2 := by omega)) (fun o V' hq => ?_)
              obtain ⟨G70, A71, nd2_72, ec2_73, rfl, rfl, hW74, hF75, hQ76, e77, e78, p79, p80, p81, -⟩ := hq
              have hF83 := Fr_tr hF67 hF75 (Fr_sub (by decide)) (Fr_sub (by decide))
              have hP84 := Pf_tr hP68 hQ76 (by omega)
              have bnd2_72 : (0 : Int) ≤ nd2_72 ∧ nd2_72 ≤ 6999 := e77 ▸ hW74.1 31
              refine .inr ⟨_, rfl, ?_⟩
              refine jx_rt (v := some (.int (i32 (nd)))) rfl rfl rfl rfl rfl rfl ?_
              have z85 := tz_f (tk2_58)
              exact ⟨_, _, _, at2_57, fk, op0, nd2_72, tk2_58, ec2_73, rfl, rfl, hW74, hF83, hP84, by omega, ((hF75.1 10 rfl).trans (e61)), ((hF75.1 16 rfl).trans ((hF60.1 16 rfl).trans (e_fk))), ((hF75.1 15 rfl).trans ((hF60.1 15 rfl).trans (e_op0))), (e77), ((hF75.1 11 rfl).trans (e62)), e78, by omega, by omega, by omega, by omega, by omega, by omega, by first | exact Or.inr (Or.inr ((⟨by omega, by omega, by omega, (wE_num p81 (by omega) (by omega)), by omega⟩)))⟩
            · have _q := h53
              exact absurd h53 (by omega)
        · have _q := h12
          refine jx_ld (pc' := 44) (l' := [(0, .ref 66)]) (st' := [.ref 66]) rfl (jl_aloadn rfl) ?_
          have b86 : (-2147483648 : Int) ≤ G 13 ∧ G 13 ≤ 2147483647 := hW.1 13
          refine jr_get (pc' := 47) (i := 13) (v := .int (i32 (G 13))) rfl rfl (by decide) rfl rfl ?_
          refine jx_go (tg := 64) rfl rfl ?_
          refine jx_ld (pc' := 65) (l' := jSto1 [(0, .ref 66)] 1 (.int (i32 (G 13)))) (st' := []) rfl rfl ?_
          obtain ⟨L87, eL87⟩ : ∃ q, q = jSto1 [(0, .ref 66)] 1 (.int (i32 (G 13))) := ⟨_, rfl⟩
          rw [← eL87]
          have gL87_0 : jGet L87 0 = some (.ref 66) := eL87 ▸ jg_ne (by decide) (rfl : jGet [(0, .ref 66)] 0 = some (.ref 66)) rfl
          have gL87_1 : jGet L87 1 = some (.int (i32 (G 13))) := eL87 ▸ jg_eq
          refine jx_ld (pc' := 66) (l' := L87) (st' := [.ref 66]) rfl (jl_aloadn gL87_0) ?_
          refine jx_vr (pc' := 69) (as := []) (st := []) rfl rfl rfl rfl ⟨rfl, rfl, Nat.le_of_ble_eq_true rfl⟩ rfl rfl (c_next (dd := d) (hd := by omega) (hW := hW)  (ln := ln) (e_ln := show G 9 = ln from (e_ln)) (le := le) (e_le := show A 4 (ln).toNat = le from (e_le)) (at0 := at0) (e_at0 := show G 10 = at0 from (e_at0))    (p_0 := by omega)) (fun o V' hq => ?_)
          obtain ⟨G88, A89, at2_90, tk2_91, rfl, rfl, hW92, hF93, e94, e95, p96, p97, p98, -⟩ := hq
          have hF100 := Fr_tr hF0 hF93 (Fr_sub (by decide)) (Fr_sub (by decide))
          have hP101 := Pf_f hP0 hF93 (by decide)
          have ec102 : ecn A89 (G88 31) = ec := (ecn_f (hF93.2 15 rfl) (hF93.1 31 rfl)).trans e_ec
          have bat2_90 : (0 : Int) ≤ at2_90 ∧ at2_90 ≤ 3002 := e94 ▸ hW92.1 10
          have ztk2_91 := tz_b tk2_91
          have btk2_91 : (0 : Int) ≤ tk2_91 ∧ tk2_91 ≤ 5 := e95 ▸ hW92.1 11
          refine .inl ⟨rfl, ?_⟩
          refine jx_ld (pc' := 70) (l' := L87) (st' := [.ref 66]) rfl (jl_aloadn gL87_0) ?_
          refine jx_ar (pc' := 71) (st' := [.int (i32 (1)), .ref 66]) rfl rfl rfl rfl ?_
          refine jx_ld (pc' := 72) (l' := L87) (st' := [.int (i32 (G 13)), .int (i32 (1)), .ref 66]) rfl (jl_iloadn gL87_1) ?_
          refine jx_ar (pc' := 73) (st' := [.int (i32 (0)), .int (i32 (G 13)), .int (i32 (1)), .ref 66]) rfl rfl rfl rfl ?_
          refine jx_ar (pc' := 74) (st' := [.int (i32 (0)), .int (i32 (0)), .int (i32 (G 13)), .int (i32 (1)), .ref 66]) rfl rfl rfl rfl ?_
          refine jx_ar (pc' := 75) (st' := [.int (i32 (0)), .int (i32 (0)), .int (i32 (0)), .int (i32 (G 13)), .int (i32 (1)), .ref 66]) rfl rfl rfl rfl ?_
          refine jx_vr (pc' := 78) (as := [.int (i32 (1)), .int (i32 (G 13)), .int (i32 (0)), .int (i32 (0)), .int (i32 (0))]) (st := []) rfl rfl rfl rfl ⟨rfl, rfl, Nat.le_of_ble_eq_true rfl⟩ rfl rfl (c_node_o (dd := d) (hd := by omega) (hW := hW92) (kind := 1) (a := G 13) (b := 0) (c := 0) (e := 0) (nd := nd) (e_nd := show G88 31 = nd from ((hF93.1 31 rfl).trans (e_nd))) (ec := ec) (e_ec := show ecn A89 (G88 31) = ec from ec102)  (h_kind := ⟨(by decide), (by decide)⟩) (h_a := ⟨(Int.le_trans (by decide : (-2147483648 : Int) ≤ -2147483648) b86.1), (Int.le_trans b86.2 (by decide : (2147483647 : Int) ≤ 2147483647))⟩) (h_b := ⟨(by decide), (by decide)⟩) (h_c := ⟨(by decide), (by decide)⟩) (h_e := ⟨(by decide), (by decide)⟩)  (p_0 := by omega) (p_1 := by omega) (p_2 := by omega)) (fun o V' hq => ?_)
          obtain ⟨G103, A104, nd2_105, ec2_106, rfl, rfl, hW107, hF108, hQ109, e110, e111, p112, p113, p114, -⟩ := hq
          have hF116 := Fr_tr hF100 hF108 (Fr_sub (by decide)) (Fr_sub (by decide))
          have hP117 := Pf_tr hP101 hQ109 (by omega)
          have bnd2_105 : (0 : Int) ≤ nd2_105 ∧ nd2_105 ≤ 6999 := e110 ▸ hW107.1 31
          refine .inr ⟨_, rfl, ?_⟩
          refine jx_rt (v := some (.int (i32 (nd)))) rfl rfl rfl rfl rfl rfl ?_
          have z118 := tz_f (tk2_91)
          exact ⟨_, _, _, at2_90, fk, op0, nd2_105, tk2_91, ec2_106, rfl, rfl, hW107, hF116, hP117, by omega, ((hF108.1 10 rfl).trans (e94)), ((hF108.1 16 rfl).trans ((hF93.1 16 rfl).trans (e_fk))), ((hF108.1 15 rfl).trans ((hF93.1 15 rfl).trans (e_op0))), (e110), ((hF108.1 11 rfl).trans (e95)), e111, by omega, by omega, by omega, by omega, by omega, by omega, by first | exact Or.inr (Or.inr ((⟨by omega, by omega, by omega, (wE_num p114 (by omega) (by omega)), by omega⟩)))⟩
      · have _q := h10
        refine jx_ld (pc' := 18) (l' := [(0, .ref 66)]) (st' := [.ref 66]) rfl (jl_aloadn rfl) ?_
        refine jx_ar (pc' := 20) (st' := [.int (i32 (14)), .ref 66]) rfl rfl rfl rfl ?_
        have b119 : (-2147483648 : Int) ≤ G 13 ∧ G 13 ≤ 2147483647 := hW.1 13
        refine jx_vr (pc' := 23) (as := [.int (i32 (14))]) (st := []) rfl rfl rfl rfl ⟨rfl, rfl, Nat.le_of_ble_eq_true rfl⟩ rfl rfl (c_isKey (dd := d) (hd := by omega) (hW := hW) (k := 14) (tk := tk0) (e_tk := show G 11 = tk0 from (e_tk0)) (tn := G 13) (e_tn := show G 13 = G 13 from rfl)  (h_k := ⟨(by decide), (by decide)⟩)  ) (fun o V' hq => ?_)
        obtain ⟨r120, rfl, rfl, b121, q122⟩ := hq
        refine .inr ⟨_, rfl, ?_⟩
        rcases q122 with ⟨rfl, a123, a124, a125⟩ | rfl
        · have _q : True := trivial
          refine jx_if_ne (pc' := 26) (tg := 35) rfl rfl rfl (by decide) (by decide) (fun h126 => ?_) (fun h126 => ?_)
          · have _q := h126
            refine jx_ld (pc' := 36) (l' := [(0, .ref 66)]) (st' := [.ref 66]) rfl (jl_aloadn rfl) ?_
            have z127 := tz_f (tk0)
            refine jr_get (pc' := 39) (i := 11) (v := .int (i32 (tk0))) rfl rfl (by decide) (rFv_eq (by decide) (show G 11 = tk0 from (e_tk0))) rfl ?_
            refine jx_ar (pc' := 40) (st' := [.int (i32 (3)), .int (i32 (tk0))]) rfl rfl rfl rfl ?_
            refine jx_icmp_ne (pc' := 43) (tg := 50) rfl rfl rfl (Int.le_trans (by decide : (-2147483648 : Int) ≤ 0) b_tk0.1) (Int.le_trans b_tk0.2 (by decide : (5 : Int) ≤ 2147483647)) (by decide) (by decide) (fun h128 => ?_) (fun h128 => ?_)
            · have _q := h128
              refine jx_ld (pc' := 51) (l' := [(0, .ref 66)]) (st' := [.ref 66]) rfl (jl_aloadn rfl) ?_
              refine jx_ar (pc' := 53) (st' := [.int (i32 (14)), .ref 66]) rfl rfl rfl rfl ?_
              refine jx_vr (pc' := 56) (as := [.int (i32 (14))]) (st := []) rfl rfl rfl rfl ⟨rfl, rfl, Nat.le_of_ble_eq_true rfl⟩ rfl rfl (c_isKey (dd := d) (hd := by omega) (hW := hW) (k := 14) (tk := tk0) (e_tk := show G 11 = tk0 from (e_tk0)) (tn := G 13) (e_tn := show G 13 = G 13 from rfl)  (h_k := ⟨(by decide), (by decide)⟩)  ) (fun o V' hq => ?_)
              obtain ⟨r129, rfl, rfl, b130, q131⟩ := hq
              refine .inr ⟨_, rfl, ?_⟩
              rcases q131 with ⟨rfl, a132, a133, a134⟩ | rfl
              · have _q : True := trivial
                refine jx_if_eq (pc' := 59) (tg := 63) rfl rfl rfl (by decide) (by decide) (fun h135 => ?_) (fun h135 => ?_)
                · have _q := h135
                  exact absurd h135 (by omega)
                · have _q := h135
                  refine jx_ar (pc' := 60) (st' := [.int (i32 (1))]) rfl rfl rfl rfl ?_
                  refine jx_go (tg := 64) rfl rfl ?_
                  refine jx_ld (pc' := 65) (l' := jSto1 [(0, .ref 66)] 1 (.int (i32 (1)))) (st' := []) rfl rfl ?_
                  obtain ⟨L136, eL136⟩ : ∃ q, q = jSto1 [(0, .ref 66)] 1 (.int (i32 (1))) := ⟨_, rfl⟩
                  rw [← eL136]
                  have gL136_0 : jGet L136 0 = some (.ref 66) := eL136 ▸ jg_ne (by decide) (rfl : jGet [(0, .ref 66)] 0 = some (.ref 66)) rfl
                  have gL136_1 : jGet L136 1 = some (.int (i32 (1))) := eL136 ▸ jg_eq
                  refine jx_ld (pc' := 66) (l' := L136) (st' := [.ref 66]) rfl (jl_aloadn gL136_0) ?_
                  refine jx_vr (pc' := 69) (as := []) (st := []) rfl rfl rfl rfl ⟨rfl, rfl, Nat.le_of_ble_eq_true rfl⟩ rfl rfl (c_next (dd := d) (hd := by omega) (hW := hW)  (ln := ln) (e_ln := show G 9 = ln from (e_ln)) (le := le) (e_le := show A 4 (ln).toNat = le from (e_le)) (at0 := at0) (e_at0 := show G 10 = at0 from (e_at0))    (p_0 := by omega)) (fun o V' hq => ?_)
                  obtain ⟨G137, A138, at2_139, tk2_140, rfl, rfl, hW141, hF142, e143, e144, p145, p146, p147, -⟩ := hq
                  have hF149 := Fr_tr hF0 hF142 (Fr_sub (by decide)) (Fr_sub (by decide))
                  have hP150 := Pf_f hP0 hF142 (by decide)
                  have ec151 : ecn A138 (G137 31) = ec := (ecn_f (hF142.2 15 rfl) (hF142.1 31 rfl)).trans e_ec
                  have bat2_139 : (0 : Int) ≤ at2_139 ∧ at2_139 ≤ 3002 := e143 ▸ hW141.1 10
                  have ztk2_140 := tz_b tk2_140
                  have btk2_140 : (0 : Int) ≤ tk2_140 ∧ tk2_140 ≤ 5 := e144 ▸ hW141.1 11
                  refine .inl ⟨rfl, ?_⟩
                  refine jx_ld (pc' := 70) (l' := L136) (st' := [.ref 66]) rfl (jl_aloadn gL136_0) ?_
                  refine jx_ar (pc' := 71) (st' := [.int (i32 (1)), .ref 66]) rfl rfl rfl rfl ?_
                  refine jx_ld (pc' := 72) (l' := L136) (st' := [.int (i32 (1)), .int (i32 (1)), .ref 66]) rfl (jl_iloadn gL136_1) ?_
                  refine jx_ar (pc' := 73) (st' := [.int (i32 (0)), .int (i32 (1)), .int (i32 (1)), .ref 66]) rfl rfl rfl rfl ?_
                  refine jx_ar (pc' := 74) (st' := [.int (i32 (0)), .int (i32 (0)), .int (i32 (1)), .int (i32 (1)), .ref 66]) rfl rfl rfl rfl ?_
                  refine jx_ar (pc' := 75) (st' := [.int (i32 (0)), .int (i32 (0)), .int (i32 (0)), .int (i32 (1)), .int (i32 (1)), .ref 66]) rfl rfl rfl rfl ?_
                  refine jx_vr (pc' := 78) (as := [.int (i32 (1)), .int (i32 (1)), .int (i32 (0)), .int (i32 (0)), .int (i32 (0))]) (st := []) rfl rfl rfl rfl ⟨rfl, rfl, Nat.le_of_ble_eq_true rfl⟩ rfl rfl (c_node_o (dd := d) (hd := by omega) (hW := hW141) (kind := 1) (a := 1) (b := 0) (c := 0) (e := 0) (nd := nd) (e_nd := show G137 31 = nd from ((hF142.1 31 rfl).trans (e_nd))) (ec := ec) (e_ec := show ecn A138 (G137 31) = ec from ec151)  (h_kind := ⟨(by decide), (by decide)⟩) (h_a := ⟨(by decide), (by decide)⟩) (h_b := ⟨(by decide), (by decide)⟩) (h_c := ⟨(by decide), (by decide)⟩) (h_e := ⟨(by decide), (by decide)⟩)  (p_0 := by omega) (p_1 := by omega) (p_2 := by omega)) (fun o V' hq => ?_)
                  obtain ⟨G152, A153, nd2_154, ec2_155, rfl, rfl, hW156, hF157, hQ158, e159, e160, p161, p162, p163, -⟩ := hq
                  have hF165 := Fr_tr hF149 hF157 (Fr_sub (by decide)) (Fr_sub (by decide))
                  have hP166 := Pf_tr hP150 hQ158 (by omega)
                  have bnd2_154 : (0 : Int) ≤ nd2_154 ∧ nd2_154 ≤ 6999 := e159 ▸ hW156.1 31
                  refine .inr ⟨_, rfl, ?_⟩
                  refine jx_rt (v := some (.int (i32 (nd)))) rfl rfl rfl rfl rfl rfl ?_
                  have z167 := tz_f (tk2_140)
                  exact ⟨_, _, _, at2_139, fk, op0, nd2_154, tk2_140, ec2_155, rfl, rfl, hW156, hF165, hP166, by omega, ((hF157.1 10 rfl).trans (e143)), ((hF157.1 16 rfl).trans ((hF142.1 16 rfl).trans (e_fk))), ((hF157.1 15 rfl).trans ((hF142.1 15 rfl).trans (e_op0))), (e159), ((hF157.1 11 rfl).trans (e144)), e160, by omega, by omega, by omega, by omega, by omega, by omega, by first | exact Or.inr (Or.inr ((⟨by omega, by omega, by omega, (wE_num p163 (by omega) (by omega)), by omega⟩)))⟩
              · have _q : True := trivial
                refine jx_if_eq (pc' := 59) (tg := 63) rfl rfl rfl (by decide) (by decide) (fun h168 => ?_) (fun h168 => ?_)
                · have _q := h168
                  refine jx_ar (pc' := 64) (st' := [.int (i32 (0))]) rfl rfl rfl rfl ?_
                  refine jx_ld (pc' := 65) (l' := jSto1 [(0, .ref 66)] 1 (.int (i32 (0)))) (st' := []) rfl rfl ?_
                  obtain ⟨L169, eL169⟩ : ∃ q, q = jSto1 [(0, .ref 66)] 1 (.int (i32 (0))) := ⟨_, rfl⟩
                  rw [← eL169]
                  have gL169_0 : jGet L169 0 = some (.ref 66) := eL169 ▸ jg_ne (by decide) (rfl : jGet [(0, .ref 66)] 0 = some (.ref 66)) rfl
                  have gL169_1 : jGet L169 1 = some (.int (i32 (0))) := eL169 ▸ jg_eq
                  refine jx_ld (pc' := 66) (l' := L169) (st' := [.ref 66]) rfl (jl_aloadn gL169_0) ?_
                  refine jx_vr (pc' := 69) (as := []) (st := []) rfl rfl rfl rfl ⟨rfl, rfl, Nat.le_of_ble_eq_true rfl⟩ rfl rfl (c_next (dd := d) (hd := by omega) (hW := hW)  (ln := ln) (e_ln := show G 9 = ln from (e_ln)) (le := le) (e_le := show A 4 (ln).toNat = le from (e_le)) (at0 := at0) (e_at0 := show G 10 = at0 from (e_at0))    (p_0 := by omega)) (fun o V' hq => ?_)
                  obtain ⟨G170, A171, at2_172, tk2_173, rfl, rfl, hW174, hF175, e176, e177, p178, p179, p180, -⟩ := hq
                  have hF182 := Fr_tr hF0 hF175 (Fr_sub (by decide)) (Fr_sub (by decide))
                  have hP183 := Pf_f hP0 hF175 (by decide)
                  have ec184 : ecn A171 (G170 31) = ec := (ecn_f (hF175.2 15 rfl) (hF175.1 31 rfl)).trans e_ec
                  have bat2_172 : (0 : Int) ≤ at2_172 ∧ at2_172 ≤ 3002 := e176 ▸ hW174.1 10
                  have ztk2_173 := tz_b tk2_173
                  have btk2_173 : (0 : Int) ≤ tk2_173 ∧ tk2_173 ≤ 5 := e177 ▸ hW174.1 11
                  refine .inl ⟨rfl, ?_⟩
                  refine jx_ld (pc' := 70) (l' := L169) (st' := [.ref 66]) rfl (jl_aloadn gL169_0) ?_
                  refine jx_ar (pc' := 71) (st' := [.int (i32 (1)), .ref 66]) rfl rfl rfl rfl ?_
                  refine jx_ld (pc' := 72) (l' := L169) (st' := [.int (i32 (0)), .int (i32 (1)), .ref 66]) rfl (jl_iloadn gL169_1) ?_
                  refine jx_ar (pc' := 73) (st' := [.int (i32 (0)), .int (i32 (0)), .int (i32 (1)), .ref 66]) rfl rfl rfl rfl ?_
                  refine jx_ar (pc' := 74) (st' := [.int (i32 (0)), .int (i32 (0)), .int (i32 (0)), .int (i32 (1)), .ref 66]) rfl rfl rfl rfl ?_
                  refine jx_ar (pc' := 75) (st' := [.int (i32 (0)), .int (i32 (0)), .int (i32 (0)), .int (i32 (0)), .int (i32 (1)), .ref 66]) rfl rfl rfl rfl ?_
                  refine jx_vr (pc' := 78) (as := [.int (i32 (1)), .int (i32 (0)), .int (i32 (0)), .int (i32 (0)), .int (i32 (0))]) (st := []) rfl rfl rfl rfl ⟨rfl, rfl, Nat.le_of_ble_eq_true rfl⟩ rfl rfl (c_node_o (dd := d) (hd := by omega) (hW := hW174) (kind := 1) (a := 0) (b := 0) (c := 0) (e := 0) (nd := nd) (e_nd := show G170 31 = nd from ((hF175.1 31 rfl).trans (e_nd))) (ec := ec) (e_ec := show ecn A171 (G170 31) = ec from ec184)  (h_kind := ⟨(by decide), (by decide)⟩) (h_a := ⟨(by decide), (by decide)⟩) (h_b := ⟨(by decide), (by decide)⟩) (h_c := ⟨(by decide), (by decide)⟩) (h_e := ⟨(by decide), (by decide)⟩)  (p_0 := by omega) (p_1 := by omega) (p_2 := by omega)) (fun o V' hq => ?_)
                  obtain ⟨G185, A186, nd2_187, ec2_188, rfl, rfl, hW189, hF190, hQ191, e192, e193, p194, p195, p196, -⟩ := hq
                  have hF198 := Fr_tr hF182 hF190 (Fr_sub (by decide)) (Fr_sub (by decide))
                  have hP199 := Pf_tr hP183 hQ191 (by omega)
                  have bnd2_187 : (0 : Int) ≤ nd2_187 ∧ nd2_187 ≤ 6999 := e192 ▸ hW189.1 31
                  refine .inr ⟨_, rfl, ?_⟩
                  refine jx_rt (v := some (.int (i32 (nd)))) rfl rfl rfl rfl rfl rfl ?_
                  have z200 := tz_f (tk2_173)
                  exact ⟨_, _, _, at2_172, fk, op0, nd2_187, tk2_173, ec2_188, rfl, rfl, hW189, hF198, hP199, by omega, ((hF190.1 10 rfl).trans (e176)), ((hF190.1 16 rfl).trans ((hF175.1 16 rfl).trans (e_fk))), ((hF190.1 15 rfl).trans ((hF175.1 15 rfl).trans (e_op0))), (e192), ((hF190.1 11 rfl).trans (e177)), e193, by omega, by omega, by omega, by omega, by omega, by omega, by first | exact Or.inr (Or.inr ((⟨by omega, by omega, by omega, (wE_num p196 (by omega) (by omega)), by omega⟩)))⟩
                · have _q := h168
                  exact absurd h168 (by omega)
            · have _q := h128
              refine jx_ld (pc' := 44) (l' := [(0, .ref 66)]) (st' := [.ref 66]) rfl (jl_aloadn rfl) ?_
              refine jr_get (pc' := 47) (i := 13) (v := .int (i32 (G 13))) rfl rfl (by decide) rfl rfl ?_
              refine jx_go (tg := 64) rfl rfl ?_
              refine jx_ld (pc' := 65) (l' := jSto1 [(0, .ref 66)] 1 (.int (i32 (G 13)))) (st' := []) rfl rfl ?_
              obtain ⟨L201, eL201⟩ : ∃ q, q = jSto1 [(0, .ref 66)] 1 (.int (i32 (G 13))) := ⟨_, rfl⟩
              rw [← eL201]
              have gL201_0 : jGet L201 0 = some (.ref 66) := eL201 ▸ jg_ne (by decide) (rfl : jGet [(0, .ref 66)] 0 = some (.ref 66)) rfl
              have gL201_1 : jGet L201 1 = some (.int (i32 (G 13))) := eL201 ▸ jg_eq
              refine jx_ld (pc' := 66) (l' := L201) (st' := [.ref 66]) rfl (jl_aloadn gL201_0) ?_
              refine jx_vr (pc' := 69) (as := []) (st := []) rfl rfl rfl rfl ⟨rfl, rfl, Nat.le_of_ble_eq_true rfl⟩ rfl rfl (c_next (dd := d) (hd := by omega) (hW := hW)  (ln := ln) (e_ln := show G 9 = ln from (e_ln)) (le := le) (e_le := show A 4 (ln).toNat = le from (e_le)) (at0 := at0) (e_at0 := show G 10 = at0 from (e_at0))    (p_0 := by omega)) (fun o V' hq => ?_)
              obtain ⟨G202, A203, at2_204, tk2_205, rfl, rfl, hW206, hF207, e208, e209, p210, p211, p212, -⟩ := hq
              have hF214 := Fr_tr hF0 hF207 (Fr_sub (by decide)) (Fr_sub (by decide))
              have hP215 := Pf_f hP0 hF207 (by decide)
              have ec216 : ecn A203 (G202 31) = ec := (ecn_f (hF207.2 15 rfl) (hF207.1 31 rfl)).trans e_ec
              have bat2_204 : (0 : Int) ≤ at2_204 ∧ at2_204 ≤ 3002 := e208 ▸ hW206.1 10
              have ztk2_205 := tz_b tk2_205
              have btk2_205 : (0 : Int) ≤ tk2_205 ∧ tk2_205 ≤ 5 := e209 ▸ hW206.1 11
              refine .inl ⟨rfl, ?_⟩
              refine jx_ld (pc' := 70) (l' := L201) (st' := [.ref 66]) rfl (jl_aloadn gL201_0) ?_
              refine jx_ar (pc' := 71) (st' := [.int (i32 (1)), .ref 66]) rfl rfl rfl rfl ?_
              refine jx_ld (pc' := 72) (l' := L201) (st' := [.int (i32 (G 13)), .int (i32 (1)), .ref 66]) rfl (jl_iloadn gL201_1) ?_
              refine jx_ar (pc' := 73) (st' := [.int (i32 (0)), .int (i32 (G 13)), .int (i32 (1)), .ref 66]) rfl rfl rfl rfl ?_
              refine jx_ar (pc' := 74) (st' := [.int (i32 (0)), .int (i32 (0)), .int (i32 (G 13)), .int (i32 (1)), .ref 66]) rfl rfl rfl rfl ?_
              refine jx_ar (pc' := 75) (st' := [.int (i32 (0)), .int (i32 (0)), .int (i32 (0)), .int (i32 (G 13)), .int (i32 (1)), .ref 66]) rfl rfl rfl rfl ?_
              refine jx_vr (pc' := 78) (as := [.int (i32 (1)), .int (i32 (G 13)), .int (i32 (0)), .int (i32 (0)), .int (i32 (0))]) (st := []) rfl rfl rfl rfl ⟨rfl, rfl, Nat.le_of_ble_eq_true rfl⟩ rfl rfl (c_node_o (dd := d) (hd := by omega) (hW := hW206) (kind := 1) (a := G 13) (b := 0) (c := 0) (e := 0) (nd := nd) (e_nd := show G202 31 = nd from ((hF207.1 31 rfl).trans (e_nd))) (ec := ec) (e_ec := show ecn A203 (G202 31) = ec from ec216)  (h_kind := ⟨(by decide), (by decide)⟩) (h_a := ⟨(Int.le_trans (by decide : (-2147483648 : Int) ≤ -2147483648) b119.1), (Int.le_trans b119.2 (by decide : (2147483647 : Int) ≤ 2147483647))⟩) (h_b := ⟨(by decide), (by decide)⟩) (h_c := ⟨(by decide), (by decide)⟩) (h_e := ⟨(by decide), (by decide)⟩)  (p_0 := by omega) (p_1 := by omega) (p_2 := by omega)) (fun o V' hq => ?_)
              obtain ⟨G217, A218, nd2_219, ec2_220, rfl, rfl, hW221, hF222, hQ223, e224, e225, p226, p227, p228, -⟩ := hq
              have hF230 := Fr_tr hF214 hF222 (Fr_sub (by decide)) (Fr_sub (by decide))
              have hP231 := Pf_tr hP215 hQ223 (by omega)
              have bnd2_219 : (0 : Int) ≤ nd2_219 ∧ nd2_219 ≤ 6999 := e224 ▸ hW221.1 31
              refine .inr ⟨_, rfl, ?_⟩
              refine jx_rt (v := some (.int (i32 (nd)))) rfl rfl rfl rfl rfl rfl ?_
              have z232 := tz_f (tk2_205)
              exact ⟨_, _, _, at2_204, fk, op0, nd2_219, tk2_205, ec2_220, rfl, rfl, hW221, hF230, hP231, by omega, ((hF222.1 10 rfl).trans (e208)), ((hF222.1 16 rfl).trans ((hF207.1 16 rfl).trans (e_fk))), ((hF222.1 15 rfl).trans ((hF207.1 15 rfl).trans (e_op0))), (e224), ((hF222.1 11 rfl).trans (e209)), e225, by omega, by omega, by omega, by omega, by omega, by omega, by first | exact Or.inr (Or.inr ((⟨by omega, by omega, by omega, (wE_num p228 (by omega) (by omega)), by omega⟩)))⟩
          · have _q := h126
            exact absurd h126 (by omega)
        · have _q : True := trivial
          refine jx_if_ne (pc' := 26) (tg := 35) rfl rfl rfl (by decide) (by decide) (fun h233 => ?_) (fun h233 => ?_)
          · have _q := h233
            exact absurd h233 (by omega)
          · have _q := h233
            refine jx_ld (pc' := 27) (l' := [(0, .ref 66)]) (st' := [.ref 66]) rfl (jl_aloadn rfl) ?_
            refine jx_ar (pc' := 29) (st' := [.int (i32 (15)), .ref 66]) rfl rfl rfl rfl ?_
            refine jx_vr (pc' := 32) (as := [.int (i32 (15))]) (st := []) rfl rfl rfl rfl ⟨rfl, rfl, Nat.le_of_ble_eq_true rfl⟩ rfl rfl (c_isKey (dd := d) (hd := by omega) (hW := hW) (k := 15) (tk := tk0) (e_tk := show G 11 = tk0 from (e_tk0)) (tn := G 13) (e_tn := show G 13 = G 13 from rfl)  (h_k := ⟨(by decide), (by decide)⟩)  ) (fun o V' hq => ?_)
            obtain ⟨r234, rfl, rfl, b235, q236⟩ := hq
            refine .inr ⟨_, rfl, ?_⟩
            rcases q236 with ⟨rfl, a237, a238, a239⟩ | rfl
            · have _q : True := trivial
              refine jx_if_eq (pc' := 35) (tg := 79) rfl rfl rfl (by decide) (by decide) (fun h240 => ?_) (fun h240 => ?_)
              · have _q := h240
                exact absurd h240 (by omega)
              · have _q := h240
                refine jx_ld (pc' := 36) (l' := [(0, .ref 66)]) (st' := [.ref 66]) rfl (jl_aloadn rfl) ?_
                have z241 := tz_f (tk0)
                refine jr_get (pc' := 39) (i := 11) (v := .int (i32 (tk0))) rfl rfl (by decide) (rFv_eq (by decide) (show G 11 = tk0 from (e_tk0))) rfl ?_
                refine jx_ar (pc' := 40) (st' := [.int (i32 (3)), .int (i32 (tk0))]) rfl rfl rfl rfl ?_
                refine jx_icmp_ne (pc' := 43) (tg := 50) rfl rfl rfl (Int.le_trans (by decide : (-2147483648 : Int) ≤ 0) b_tk0.1) (Int.le_trans b_tk0.2 (by decide : (5 : Int) ≤ 2147483647)) (by decide) (by decide) (fun h242 => ?_) (fun h242 => ?_)
                · have _q := h242
                  refine jx_ld (pc' := 51) (l' := [(0, .ref 66)]) (st' := [.ref 66]) rfl (jl_aloadn rfl) ?_
                  refine jx_ar (pc' := 53) (st' := [.int (i32 (14)), .ref 66]) rfl rfl rfl rfl ?_
                  refine jx_vr (pc' := 56) (as := [.int (i32 (14))]) (st := []) rfl rfl rfl rfl ⟨rfl, rfl, Nat.le_of_ble_eq_true rfl⟩ rfl rfl (c_isKey (dd := d) (hd := by omega) (hW := hW) (k := 14) (tk := tk0) (e_tk := show G 11 = tk0 from (e_tk0)) (tn := G 13) (e_tn := show G 13 = G 13 from rfl)  (h_k := ⟨(by decide), (by decide)⟩)  ) (fun o V' hq => ?_)
                  obtain ⟨r243, rfl, rfl, b244, q245⟩ := hq
                  refine .inr ⟨_, rfl, ?_⟩
                  rcases q245 with ⟨rfl, a246, a247, a248⟩ | rfl
                  · have _q : True := trivial
                    refine jx_if_eq (pc' := 59) (tg := 63) rfl rfl rfl (by decide) (by decide) (fun h249 => ?_) (fun h249 => ?_)
                    · have _q := h249
                      exact absurd h249 (by omega)
                    · have _q := h249
                      refine jx_ar (pc' := 60) (st' := [.int (i32 (1))]) rfl rfl rfl rfl ?_
                      refine jx_go (tg := 64) rfl rfl ?_
                      refine jx_ld (pc' := 65) (l' := jSto1 [(0, .ref 66)] 1 (.int (i32 (1)))) (st' := []) rfl rfl ?_
                      obtain ⟨L250, eL250⟩ : ∃ q, q = jSto1 [(0, .ref 66)] 1 (.int (i32 (1))) := ⟨_, rfl⟩
                      rw [← eL250]
                      have gL250_0 : jGet L250 0 = some (.ref 66) := eL250 ▸ jg_ne (by decide) (rfl : jGet [(0, .ref 66)] 0 = some (.ref 66)) rfl
                      have gL250_1 : jGet L250 1 = some (.int (i32 (1))) := eL250 ▸ jg_eq
                      refine jx_ld (pc' := 66) (l' := L250) (st' := [.ref 66]) rfl (jl_aloadn gL250_0) ?_
                      refine jx_vr (pc' := 69) (as := []) (st := []) rfl rfl rfl rfl ⟨rfl, rfl, Nat.le_of_ble_eq_true rfl⟩ rfl rfl (c_next (dd := d) (hd := by omega) (hW := hW)  (ln := ln) (e_ln := show G 9 = ln from (e_ln)) (le := le) (e_le := show A 4 (ln).toNat = le from (e_le)) (at0 := at0) (e_at0 := show G 10 = at0 from (e_at0))    (p_0 := by omega)) (fun o V' hq => ?_)
                      obtain ⟨G251, A252, at2_253, tk2_254, rfl, rfl, hW255, hF256, e257, e258, p259, p260, p261, -⟩ := hq
                      have hF263 := Fr_tr hF0 hF256 (Fr_sub (by decide)) (Fr_sub (by decide))
                      have hP264 := Pf_f hP0 hF256 (by decide)
                      have ec265 : ecn A252 (G251 31) = ec := (ecn_f (hF256.2 15 rfl) (hF256.1 31 rfl)).trans e_ec
                      have bat2_253 : (0 : Int) ≤ at2_253 ∧ at2_253 ≤ 3002 := e257 ▸ hW255.1 10
                      have ztk2_254 := tz_b tk2_254
                      have btk2_254 : (0 : Int) ≤ tk2_254 ∧ tk2_254 ≤ 5 := e258 ▸ hW255.1 11
                      refine .inl ⟨rfl, ?_⟩
                      refine jx_ld (pc' := 70) (l' := L250) (st' := [.ref 66]) rfl (jl_aloadn gL250_0) ?_
                      refine jx_ar (pc' := 71) (st' := [.int (i32 (1)), .ref 66]) rfl rfl rfl rfl ?_
                      refine jx_ld (pc' := 72) (l' := L250) (st' := [.int (i32 (1)), .int (i32 (1)), .ref 66]) rfl (jl_iloadn gL250_1) ?_
                      refine jx_ar (pc' := 73) (st' := [.int (i32 (0)), .int (i32 (1)), .int (i32 (1)), .ref 66]) rfl rfl rfl rfl ?_
                      refine jx_ar (pc' := 74) (st' := [.int (i32 (0)), .int (i32 (0)), .int (i32 (1)), .int (i32 (1)), .ref 66]) rfl rfl rfl rfl ?_
                      refine jx_ar (pc' := 75) (st' := [.int (i32 (0)), .int (i32 (0)), .int (i32 (0)), .int (i32 (1)), .int (i32 (1)), .ref 66]) rfl rfl rfl rfl ?_
                      refine jx_vr (pc' := 78) (as := [.int (i32 (1)), .int (i32 (1)), .int (i32 (0)), .int (i32 (0)), .int (i32 (0))]) (st := []) rfl rfl rfl rfl ⟨rfl, rfl, Nat.le_of_ble_eq_true rfl⟩ rfl rfl (c_node_o (dd := d) (hd := by omega) (hW := hW255) (kind := 1) (a := 1) (b := 0) (c := 0) (e := 0) (nd := nd) (e_nd := show G251 31 = nd from ((hF256.1 31 rfl).trans (e_nd))) (ec := ec) (e_ec := show ecn A252 (G251 31) = ec from ec265)  (h_kind := ⟨(by decide), (by decide)⟩) (h_a := ⟨(by decide), (by decide)⟩) (h_b := ⟨(by decide), (by decide)⟩) (h_c := ⟨(by decide), (by decide)⟩) (h_e := ⟨(by decide), (by decide)⟩)  (p_0 := by omega) (p_1 := by omega) (p_2 := by omega)) (fun o V' hq => ?_)
                      obtain ⟨G266, A267, nd2_268, ec2_269, rfl, rfl, hW270, hF271, hQ272, e273, e274, p275, p276, p277, -⟩ := hq
                      have hF279 := Fr_tr hF263 hF271 (Fr_sub (by decide)) (Fr_sub (by decide))
                      have hP280 := Pf_tr hP264 hQ272 (by omega)
                      have bnd2_268 : (0 : Int) ≤ nd2_268 ∧ nd2_268 ≤ 6999 := e273 ▸ hW270.1 31
                      refine .inr ⟨_, rfl, ?_⟩
                      refine jx_rt (v := some (.int (i32 (nd)))) rfl rfl rfl rfl rfl rfl ?_
                      have z281 := tz_f (tk2_254)
                      exact ⟨_, _, _, at2_253, fk, op0, nd2_268, tk2_254, ec2_269, rfl, rfl, hW270, hF279, hP280, by omega, ((hF271.1 10 rfl).trans (e257)), ((hF271.1 16 rfl).trans ((hF256.1 16 rfl).trans (e_fk))), ((hF271.1 15 rfl).trans ((hF256.1 15 rfl).trans (e_op0))), (e273), ((hF271.1 11 rfl).trans (e258)), e274, by omega, by omega, by omega, by omega, by omega, by omega, by first | exact Or.inr (Or.inr ((⟨by omega, by omega, by omega, (wE_num p277 (by omega) (by omega)), by omega⟩)))⟩
                  · have _q : True := trivial
                    refine jx_if_eq (pc' := 59) (tg := 63) rfl rfl rfl (by decide) (by decide) (fun h282 => ?_) (fun h282 => ?_)
                    · have _q := h282
                      refine jx_ar (pc' := 64) (st' := [.int (i32 (0))]) rfl rfl rfl rfl ?_
                      refine jx_ld (pc' := 65) (l' := jSto1 [(0, .ref 66)] 1 (.int (i32 (0)))) (st' := []) rfl rfl ?_
                      obtain ⟨L283, eL283⟩ : ∃ q, q = jSto1 [(0, .ref 66)] 1 (.int (i32 (0))) := ⟨_, rfl⟩
                      rw [← eL283]
                      have gL283_0 : jGet L283 0 = some (.ref 66) := eL283 ▸ jg_ne (by decide) (rfl : jGet [(0, .ref 66)] 0 = some (.ref 66)) rfl
                      have gL283_1 : jGet L283 1 = some (.int (i32 (0))) := eL283 ▸ jg_eq
                      refine jx_ld (pc' := 66) (l' := L283) (st' := [.ref 66]) rfl (jl_aloadn gL283_0) ?_
                      refine jx_vr (pc' := 69) (as := []) (st := []) rfl rfl rfl rfl ⟨rfl, rfl, Nat.le_of_ble_eq_true rfl⟩ rfl rfl (c_next (dd := d) (hd := by omega) (hW := hW)  (ln := ln) (e_ln := show G 9 = ln from (e_ln)) (le := le) (e_le := show A 4 (ln).toNat = le from (e_le)) (at0 := at0) (e_at0 := show G 10 = at0 from (e_at0))    (p_0 := by omega)) (fun o V' hq => ?_)
                      obtain ⟨G284, A285, at2_286, tk2_287, rfl, rfl, hW288, hF289, e290, e291, p292, p293, p294, -⟩ := hq
                      have hF296 := Fr_tr hF0 hF289 (Fr_sub (by decide)) (Fr_sub (by decide))
                      have hP297 := Pf_f hP0 hF289 (by decide)
                      have ec298 : ecn A285 (G284 31) = ec := (ecn_f (hF289.2 15 rfl) (hF289.1 31 rfl)).trans e_ec
                      have bat2_286 : (0 : Int) ≤ at2_286 ∧ at2_286 ≤ 3002 := e290 ▸ hW288.1 10
                      have ztk2_287 := tz_b tk2_287
                      have btk2_287 : (0 : Int) ≤ tk2_287 ∧ tk2_287 ≤ 5 := e291 ▸ hW288.1 11
                      refine .inl ⟨rfl, ?_⟩
                      refine jx_ld (pc' := 70) (l' := L283) (st' := [.ref 66]) rfl (jl_aloadn gL283_0) ?_
                      refine jx_ar (pc' := 71) (st' := [.int (i32 (1)), .ref 66]) rfl rfl rfl rfl ?_
                      refine jx_ld (pc' := 72) (l' := L283) (st' := [.int (i32 (0)), .int (i32 (1)), .ref 66]) rfl (jl_iloadn gL283_1) ?_
                      refine jx_ar (pc' := 73) (st' := [.int (i32 (0)), .int (i32 (0)), .int (i32 (1)), .ref 66]) rfl rfl rfl rfl ?_
                      refine jx_ar (pc' := 74) (st' := [.int (i32 (0)), .int (i32 (0)), .int (i32 (0)), .int (i32 (1)), .ref 66]) rfl rfl rfl rfl ?_
                      refine jx_ar (pc' := 75) (st' := [.int (i32 (0)), .int (i32 (0)), .int (i32 (0)), .int (i32 (0)), .int (i32 (1)), .ref 66]) rfl rfl rfl rfl ?_
                      refine jx_vr (pc' := 78) (as := [.int (i32 (1)), .int (i32 (0)), .int (i32 (0)), .int (i32 (0)), .int (i32 (0))]) (st := []) rfl rfl rfl rfl ⟨rfl, rfl, Nat.le_of_ble_eq_true rfl⟩ rfl rfl (c_node_o (dd := d) (hd := by omega) (hW := hW288) (kind := 1) (a := 0) (b := 0) (c := 0) (e := 0) (nd := nd) (e_nd := show G284 31 = nd from ((hF289.1 31 rfl).trans (e_nd))) (ec := ec) (e_ec := show ecn A285 (G284 31) = ec from ec298)  (h_kind := ⟨(by decide), (by decide)⟩) (h_a := ⟨(by decide), (by decide)⟩) (h_b := ⟨(by decide), (by decide)⟩) (h_c := ⟨(by decide), (by decide)⟩) (h_e := ⟨(by decide), (by decide)⟩)  (p_0 := by omega) (p_1 := by omega) (p_2 := by omega)) (fun o V' hq => ?_)
                      obtain ⟨G299, A300, nd2_301, ec2_302, rfl, rfl, hW303, hF304, hQ305, e306, e307, p308, p309, p310, -⟩ := hq
                      have hF312 := Fr_tr hF296 hF304 (Fr_sub (by decide)) (Fr_sub (by decide))
                      have hP313 := Pf_tr hP297 hQ305 (by omega)
                      have bnd2_301 : (0 : Int) ≤ nd2_301 ∧ nd2_301 ≤ 6999 := e306 ▸ hW303.1 31
                      refine .inr ⟨_, rfl, ?_⟩
                      refine jx_rt (v := some (.int (i32 (nd)))) rfl rfl rfl rfl rfl rfl ?_
                      have z314 := tz_f (tk2_287)
                      exact ⟨_, _, _, at2_286, fk, op0, nd2_301, tk2_287, ec2_302, rfl, rfl, hW303, hF312, hP313, by omega, ((hF304.1 10 rfl).trans (e290)), ((hF304.1 16 rfl).trans ((hF289.1 16 rfl).trans (e_fk))), ((hF304.1 15 rfl).trans ((hF289.1 15 rfl).trans (e_op0))), (e306), ((hF304.1 11 rfl).trans (e291)), e307, by omega, by omega, by omega, by omega, by omega, by omega, by first | exact Or.inr (Or.inr ((⟨by omega, by omega, by omega, (wE_num p310 (by omega) (by omega)), by omega⟩)))⟩
                    · have _q := h282
                      exact absurd h282 (by omega)
                · have _q := h242
                  refine jx_ld (pc' := 44) (l' := [(0, .ref 66)]) (st' := [.ref 66]) rfl (jl_aloadn rfl) ?_
                  refine jr_get (pc' := 47) (i := 13) (v := .int (i32 (G 13))) rfl rfl (by decide) rfl rfl ?_
                  refine jx_go (tg := 64) rfl rfl ?_
                  refine jx_ld (pc' := 65) (l' := jSto1 [(0, .ref 66)] 1 (.int (i32 (G 13)))) (st' := []) rfl rfl ?_
                  obtain ⟨L315, eL315⟩ : ∃ q, q = jSto1 [(0, .ref 66)] 1 (.int (i32 (G 13))) := ⟨_, rfl⟩
                  rw [← eL315]
                  have gL315_0 : jGet L315 0 = some (.ref 66) := eL315 ▸ jg_ne (by decide) (rfl : jGet [(0, .ref 66)] 0 = some (.ref 66)) rfl
                  have gL315_1 : jGet L315 1 = some (.int (i32 (G 13))) := eL315 ▸ jg_eq
                  refine jx_ld (pc' := 66) (l' := L315) (st' := [.ref 66]) rfl (jl_aloadn gL315_0) ?_
                  refine jx_vr (pc' := 69) (as := []) (st := []) rfl rfl rfl rfl ⟨rfl, rfl, Nat.le_of_ble_eq_true rfl⟩ rfl rfl (c_next (dd := d) (hd := by omega) (hW := hW)  (ln := ln) (e_ln := show G 9 = ln from (e_ln)) (le := le) (e_le := show A 4 (ln).toNat = le from (e_le)) (at0 := at0) (e_at0 := show G 10 = at0 from (e_at0))    (p_0 := by omega)) (fun o V' hq => ?_)
                  obtain ⟨G316, A317, at2_318, tk2_319, rfl, rfl, hW320, hF321, e322, e323, p324, p325, p326, -⟩ := hq
                  have hF328 := Fr_tr hF0 hF321 (Fr_sub (by decide)) (Fr_sub (by decide))
                  have hP329 := Pf_f hP0 hF321 (by decide)
                  have ec330 : ecn A317 (G316 31) = ec := (ecn_f (hF321.2 15 rfl) (hF321.1 31 rfl)).trans e_ec
                  have bat2_318 : (0 : Int) ≤ at2_318 ∧ at2_318 ≤ 3002 := e322 ▸ hW320.1 10
                  have ztk2_319 := tz_b tk2_319
                  have btk2_319 : (0 : Int) ≤ tk2_319 ∧ tk2_319 ≤ 5 := e323 ▸ hW320.1 11
                  refine .inl ⟨rfl, ?_⟩
                  refine jx_ld (pc' := 70) (l' := L315) (st' := [.ref 66]) rfl (jl_aloadn gL315_0) ?_
                  refine jx_ar (pc' := 71) (st' := [.int (i32 (1)), .ref 66]) rfl rfl rfl rfl ?_
                  refine jx_ld (pc' := 72) (l' := L315) (st' := [.int (i32 (G 13)), .int (i32 (1)), .ref 66]) rfl (jl_iloadn gL315_1) ?_
                  refine jx_ar (pc' := 73) (st' := [.int (i32 (0)), .int (i32 (G 13)), .int (i32 (1)), .ref 66]) rfl rfl rfl rfl ?_
                  refine jx_ar (pc' := 74) (st' := [.int (i32 (0)), .int (i32 (0)), .int (i32 (G 13)), .int (i32 (1)), .ref 66]) rfl rfl rfl rfl ?_
                  refine jx_ar (pc' := 75) (st' := [.int (i32 (0)), .int (i32 (0)), .int (i32 (0)), .int (i32 (G 13)), .int (i32 (1)), .ref 66]) rfl rfl rfl rfl ?_
                  refine jx_vr (pc' := 78) (as := [.int (i32 (1)), .int (i32 (G 13)), .int (i32 (0)), .int (i32 (0)), .int (i32 (0))]) (st := []) rfl rfl rfl rfl ⟨rfl, rfl, Nat.le_of_ble_eq_true rfl⟩ rfl rfl (c_node_o (dd := d) (hd := by omega) (hW := hW320) (kind := 1) (a := G 13) (b := 0) (c := 0) (e := 0) (nd := nd) (e_nd := show G316 31 = nd from ((hF321.1 31 rfl).trans (e_nd))) (ec := ec) (e_ec := show ecn A317 (G316 31) = ec from ec330)  (h_kind := ⟨(by decide), (by decide)⟩) (h_a := ⟨(Int.le_trans (by decide : (-2147483648 : Int) ≤ -2147483648) b119.1), (Int.le_trans b119.2 (by decide : (2147483647 : Int) ≤ 2147483647))⟩) (h_b := ⟨(by decide), (by decide)⟩) (h_c := ⟨(by decide), (by decide)⟩) (h_e := ⟨(by decide), (by decide)⟩)  (p_0 := by omega) (p_1 := by omega) (p_2 := by omega)) (fun o V' hq => ?_)
                  obtain ⟨G331, A332, nd2_333, ec2_334, rfl, rfl, hW335, hF336, hQ337, e338, e339, p340, p341, p342, -⟩ := hq
                  have hF344 := Fr_tr hF328 hF336 (Fr_sub (by decide)) (Fr_sub (by decide))
                  have hP345 := Pf_tr hP329 hQ337 (by omega)
                  have bnd2_333 : (0 : Int) ≤ nd2_333 ∧ nd2_333 ≤ 6999 := e338 ▸ hW335.1 31
                  refine .inr ⟨_, rfl, ?_⟩
                  refine jx_rt (v := some (.int (i32 (nd)))) rfl rfl rfl rfl rfl rfl ?_
                  have z346 := tz_f (tk2_319)
                  exact ⟨_, _, _, at2_318, fk, op0, nd2_333, tk2_319, ec2_334, rfl, rfl, hW335, hF344, hP345, by omega, ((hF336.1 10 rfl).trans (e322)), ((hF336.1 16 rfl).trans ((hF321.1 16 rfl).trans (e_fk))), ((hF336.1 15 rfl).trans ((hF321.1 15 rfl).trans (e_op0))), (e338), ((hF336.1 11 rfl).trans (e323)), e339, by omega, by omega, by omega, by omega, by omega, by omega, by first | exact Or.inr (Or.inr ((⟨by omega, by omega, by omega, (wE_num p342 (by omega) (by omega)), by omega⟩)))⟩
            · have _q : True := trivial
              refine jx_if_eq (pc' := 35) (tg := 79) rfl rfl rfl (by decide) (by decide) (fun h347 => ?_) (fun h347 => ?_)
              · have _q := h347
                refine jx_ld (pc' := 80) (l' := [(0, .ref 66)]) (st' := [.ref 66]) rfl (jl_aloadn rfl) ?_
                refine jx_ar (pc' := 82) (st' := [.int (i32 (40)), .ref 66]) rfl rfl rfl rfl ?_
                refine jx_vr (pc' := 85) (as := [.int (i32 (40))]) (st := []) rfl rfl rfl rfl ⟨rfl, rfl, Nat.le_of_ble_eq_true rfl⟩ rfl rfl (c_is (dd := d) (hd := by omega) (hW := hW) (k := 40) (tk := tk0) (e_tk := show G 11 = tk0 from (e_tk0)) (tn := G 13) (e_tn := show G 13 = G 13 from rfl)  (h_k := ⟨(by decide), (by decide)⟩)  ) (fun o V' hq => ?_)
                obtain ⟨r348, rfl, rfl, b349, q350⟩ := hq
                refine .inr ⟨_, rfl, ?_⟩
                rcases q350 with ⟨rfl, a351, a352, a353⟩ | rfl
                · have _q : True := trivial
                  refine jx_if_eq (pc' := 88) (tg := 133) rfl rfl rfl (by decide) (by decide) (fun h354 => ?_) (fun h354 => ?_)
                  · have _q := h354
                    exact absurd h354 (by omega)
                  · have _q := h354
                    refine jx_ld (pc' := 89) (l' := [(0, .ref 66)]) (st' := [.ref 66]) rfl (jl_aloadn rfl) ?_
                    refine jx_vr (pc' := 92) (as := []) (st := []) rfl rfl rfl rfl ⟨rfl, rfl, Nat.le_of_ble_eq_true rfl⟩ rfl rfl (c_open (dd := d) (hd := by omega) (hW := hW)  (fk := fk) (e_fk := show G 16 = fk from (e_fk)) (op0 := op0) (e_op0 := show G 15 = op0 from (e_op0))    (p_0 := by omega)) (fun o V' hq => ?_)
                    obtain ⟨G355, A356, fk2_357, op2_358, rfl, rfl, hW359, hF360, e361, e362, p363, q364⟩ := hq
                    have hF365 := Fr_tr hF0 hF360 (Fr_sub (by decide)) (Fr_sub (by decide))
                    have hP366 := Pf_f hP0 hF360 (by decide)
                    have ec367 : ecn A356 (G355 31) = ec := (ecn_f (hF360.2 15 rfl) (hF360.1 31 rfl)).trans e_ec
                    have bfk2_357 : (0 : Int) ≤ fk2_357 ∧ fk2_357 ≤ 6 := e361 ▸ hW359.1 16
                    have bop2_358 : (-2147483648 : Int) ≤ op2_358 ∧ op2_358 ≤ 2147483647 := e362 ▸ hW359.1 15
                    refine .inl ⟨rfl, ?_⟩
                    rcases q364 with a368 | ⟨a369, a370, a371⟩
                    · have _q : True := trivial
                      refine jx_ld (pc' := 93) (l' := [(0, .ref 66)]) (st' := [.ref 66]) rfl (jl_aloadn rfl) ?_
                      refine jx_ar (pc' := 94) (st' := [.int (i32 (1)), .ref 66]) rfl rfl rfl rfl ?_
                      refine jx_vr (pc' := 97) (as := [.int (i32 (1))]) (st := []) rfl rfl rfl rfl ⟨rfl, rfl, Nat.le_of_ble_eq_true rfl⟩ rfl rfl (c_need (dd := d) (hd := by omega) (hW := hW359) (g := 1) (ln := ln) (e_ln := show G355 9 = ln from ((hF360.1 9 rfl).trans (e_ln))) (le := le) (e_le := show A356 4 (ln).toNat = le from (congrFun (hF360.2 4 rfl) _).trans (e_le)) (at0 := at0) (e_at0 := show G355 10 = at0 from ((hF360.1 10 rfl).trans (e_at0))) (fk := fk2_357) (e_fk := show G355 16 = fk2_357 from (e361)) (tk0 := tk0) (e_tk0 := show G355 11 = tk0 from ((hF360.1 11 rfl).trans (e_tk0)))  (h_g := ⟨(by decide), (by decide)⟩)  (p_0 := by omega)) (fun o V' hq => ?_)
                      obtain ⟨G372, A373, at2_374, tk2_375, fk2_376, rfl, rfl, hW377, hF378, e379, e380, e381, p382, p383, q384⟩ := hq
                      have hF385 := Fr_tr hF365 hF378 (Fr_sub (by decide)) (Fr_sub (by decide))
                      have hP386 := Pf_f hP366 hF378 (by decide)
                      have ec387 : ecn A373 (G372 31) = ec := (ecn_f (hF378.2 15 rfl) (hF378.1 31 rfl)).trans ec367
                      have bat2_374 : (0 : Int) ≤ at2_374 ∧ at2_374 ≤ 3002 := e379 ▸ hW377.1 10
                      have ztk2_375 := tz_b tk2_375
                      have btk2_375 : (0 : Int) ≤ tk2_375 ∧ tk2_375 ≤ 5 := e380 ▸ hW377.1 11
                      have bfk2_376 : (0 : Int) ≤ fk2_376 ∧ fk2_376 ≤ 6 := e381 ▸ hW377.1 16
                      refine .inl ⟨rfl, ?_⟩
                      rcases q384 with ⟨a388, a389, a390, a391⟩ | ⟨a392, a393, a394, a395⟩
                      · have _q : True := trivial
                        refine jx_ld (pc' := 98) (l' := [(0, .ref 66)]) (st' := [.ref 66]) rfl (jl_aloadn rfl) ?_
                        refine jx_vr (pc' := 101) (as := []) (st := []) rfl rfl rfl rfl ⟨rfl, rfl, Nat.le_of_ble_eq_true rfl⟩ rfl rfl (hE (dd := d) (hd := by omega) (hW := hW377)  (ln := ln) (e_ln := show G372 9 = ln from ((hF378.1 9 rfl).trans ((hF360.1 9 rfl).trans (e_ln)))) (le := le) (e_le := show A373 4 (ln).toNat = le from (congrFun ((hF378.2 4 rfl).trans (hF360.2 4 rfl)) _).trans (e_le)) (at0 := at2_374) (e_at0 := show G372 10 = at2_374 from (e379)) (fk := fk2_376) (e_fk := show G372 16 = fk2_376 from (e381)) (op0 := op2_358) (e_op0 := show G372 15 = op2_358 from ((hF378.1 15 rfl).trans (e362))) (nd := nd) (e_nd := show G372 31 = nd from ((hF378.1 31 rfl).trans ((hF360.1 31 rfl).trans (e_nd)))) (tk0 := tk2_375) (e_tk0 := show G372 11 = tk2_375 from (e380)) (ec := ec) (e_ec := show ecn A373 (G372 31) = ec from ec387) (i_SV := (SV_ext (((hF378.1 29 rfl).trans (hF360.1 29 rfl))) (((hF378.2 14 rfl).trans (hF360.2 14 rfl))) i_SV))   (p_0 := by omega) (p_1 := by omega) (p_2 := by omega) (p_3 := by omega) (p_4 := by omega) (p_5 := by omega)) (fun o V' hq => ?_)
                        obtain ⟨G396, A397, r398, at2_399, fk2_400, op2_401, nd2_402, tk2_403, ec2_404, rfl, rfl, hW405, hF406, hQ407, b408, e409, e410, e411, e412, e413, e414, p415, p416, p417, p418, p419, p420, q421⟩ := hq
                        have hF422 := Fr_tr hF385 hF406 (Fr_sub (by decide)) (Fr_sub (by decide))
                        have hP423 := Pf_tr hP386 hQ407 (by omega)
                        have bat2_399 : (0 : Int) ≤ at2_399 ∧ at2_399 ≤ 3002 := e409 ▸ hW405.1 10
                        have bfk2_400 : (0 : Int) ≤ fk2_400 ∧ fk2_400 ≤ 6 := e410 ▸ hW405.1 16
                        have bop2_401 : (-2147483648 : Int) ≤ op2_401 ∧ op2_401 ≤ 2147483647 := e411 ▸ hW405.1 15
                        have bnd2_402 : (0 : Int) ≤ nd2_402 ∧ nd2_402 ≤ 6999 := e412 ▸ hW405.1 31
                        have ztk2_403 := tz_b tk2_403
                        have btk2_403 : (0 : Int) ≤ tk2_403 ∧ tk2_403 ≤ 5 := e413 ▸ hW405.1 11
                        refine .inr ⟨_, rfl, ?_⟩
                        rcases q421 with ⟨a424, a425, a426, a427, a428, a429⟩ | ⟨a430, a431, a432⟩ | ⟨a433, a434, a435, a436, a437⟩
                        · have _q : True := trivial
                          refine jx_ld (pc' := 102) (l' := jSto1 [(0, .ref 66)] 1 (.int (i32 (r398)))) (st' := []) rfl rfl ?_
                          obtain ⟨L438, eL438⟩ : ∃ q, q = jSto1 [(0, .ref 66)] 1 (.int (i32 (r398))) := ⟨_, rfl⟩
                          rw [← eL438]
                          have gL438_0 : jGet L438 0 = some (.ref 66) := eL438 ▸ jg_ne (by decide) (rfl : jGet [(0, .ref 66)] 0 = some (.ref 66)) rfl
                          have gL438_1 : jGet L438 1 = some (.int (i32 (r398))) := eL438 ▸ jg_eq
                          refine jx_ld (pc' := 103) (l' := L438) (st' := [.ref 66]) rfl (jl_aloadn gL438_0) ?_
                          refine jx_ld (pc' := 104) (l' := L438) (st' := [.ref 66, .ref 66]) rfl (jl_aloadn gL438_0) ?_
                          refine jx_ar (pc' := 106) (st' := [.int (i32 (41)), .ref 66, .ref 66]) rfl rfl rfl rfl ?_
                          have b439 : (-2147483648 : Int) ≤ G396 13 ∧ G396 13 ≤ 2147483647 := hW405.1 13
                          refine jx_vr (pc' := 109) (as := [.int (i32 (41))]) (st := [.ref 66]) rfl rfl rfl rfl ⟨rfl, rfl, Nat.le_of_ble_eq_true rfl⟩ rfl rfl (c_is (dd := d) (hd := by omega) (hW := hW405) (k := 41) (tk := tk2_403) (e_tk := show G396 11 = tk2_403 from (e413)) (tn := G396 13) (e_tn := show G396 13 = G396 13 from rfl)  (h_k := ⟨(by decide), (by decide)⟩)  ) (fun o V' hq => ?_)
                          obtain ⟨r440, rfl, rfl, b441, q442⟩ := hq
                          refine .inr ⟨_, rfl, ?_⟩
                          rcases q442 with ⟨rfl, a443, a444, a445⟩ | rfl
                          · have _q : True := trivial
                            refine jx_vr (pc' := 112) (as := [.int (i32 (1))]) (st := []) rfl rfl rfl rfl ⟨rfl, rfl, Nat.le_of_ble_eq_true rfl⟩ rfl rfl (c_need (dd := d) (hd := by omega) (hW := hW405) (g := 1) (ln := ln) (e_ln := show G396 9 = ln from ((hF406.1 9 rfl).trans ((hF378.1 9 rfl).trans ((hF360.1 9 rfl).trans (e_ln))))) (le := le) (e_le := show A397 4 (ln).toNat = le from (congrFun ((hF406.2 4 rfl).trans ((hF378.2 4 rfl).trans (hF360.2 4 rfl))) _).trans (e_le)) (at0 := at2_399) (e_at0 := show G396 10 = at2_399 from (e409)) (fk := fk2_400) (e_fk := show G396 16 = fk2_400 from (e410)) (tk0 := tk2_403) (e_tk0 := show G396 11 = tk2_403 from (e413))  (h_g := ⟨(by decide), (by decide)⟩)  (p_0 := by omega)) (fun o V' hq => ?_)
                            obtain ⟨G446, A447, at2_448, tk2_449, fk2_450, rfl, rfl, hW451, hF452, e453, e454, e455, p456, p457, q458⟩ := hq
                            have hF459 := Fr_tr hF422 hF452 (Fr_sub (by decide)) (Fr_sub (by decide))
                            have hP460 := Pf_f hP423 hF452 (by decide)
                            have ec461 : ecn A447 (G446 31) = ec2_404 := (ecn_f (hF452.2 15 rfl) (hF452.1 31 rfl)).trans e414
                            have bat2_448 : (0 : Int) ≤ at2_448 ∧ at2_448 ≤ 3002 := e453 ▸ hW451.1 10
                            have ztk2_449 := tz_b tk2_449
                            have btk2_449 : (0 : Int) ≤ tk2_449 ∧ tk2_449 ≤ 5 := e454 ▸ hW451.1 11
                            have bfk2_450 : (0 : Int) ≤ fk2_450 ∧ fk2_450 ≤ 6 := e455 ▸ hW451.1 16
                            refine .inl ⟨rfl, ?_⟩
                            rcases q458 with ⟨a462, a463, a464, a465⟩ | ⟨a466, a467, a468, a469⟩
                            · have _q : True := trivial
                              refine jx_ld (pc' := 113) (l' := L438) (st' := [.ref 66]) rfl (jl_aloadn gL438_0) ?_
                              refine jx_ar (pc' := 114) (st' := [.ref 66, .ref 66]) rfl rfl rfl rfl ?_
                              refine jr_get (pc' := 117) (i := 15) (v := .int (i32 (op2_401))) rfl rfl (by decide) (rFv_eq (by decide) (show G446 15 = op2_401 from ((hF452.1 15 rfl).trans (e411)))) rfl ?_
                              refine jx_ar (pc' := 118) (st' := [.int (i32 (1)), .int (i32 (op2_401)), .ref 66]) rfl rfl rfl rfl ?_
                              refine jx_sub (pc' := 119) rfl rfl ?_
                              refine jr_put (pc' := 122) (i := 15) (z := (op2_401 - 1)) rfl rfl (by decide) rfl rfl rfl rfl rfl rfl ?_
                              have hW470 : Wk (uG G446 15 ((op2_401 - 1))) A447 := Wk_g hW451 (show (-2147483648 : Int) ≤ (op2_401 - 1) by omega) (show (op2_401 - 1) ≤ (2147483647 : Int) by omega)
                              have hF471 := Fr_g (z := (op2_401 - 1)) (i := 15) hF459 (by decide)
                              have ec472 : ecn A447 ((uG G446 15 ((op2_401 - 1))) 31) = ec2_404 := ec461
                              refine jx_ld (pc' := 123) (l' := L438) (st' := [.ref 66]) rfl (jl_aloadn gL438_0) ?_
                              refine jx_ar (pc' := 125) (st' := [.int (i32 (7)), .ref 66]) rfl rfl rfl rfl ?_
                              refine jx_ld (pc' := 126) (l' := L438) (st' := [.int (i32 (r398)), .int (i32 (7)), .ref 66]) rfl (jl_iloadn gL438_1) ?_
                              refine jx_ar (pc' := 127) (st' := [.int (i32 (0)), .int (i32 (r398)), .int (i32 (7)), .ref 66]) rfl rfl rfl rfl ?_
                              refine jx_ar (pc' := 128) (st' := [.int (i32 (0)), .int (i32 (0)), .int (i32 (r398)), .int (i32 (7)), .ref 66]) rfl rfl rfl rfl ?_
                              refine jx_ar (pc' := 129) (st' := [.int (i32 (0)), .int (i32 (0)), .int (i32 (0)), .int (i32 (r398)), .int (i32 (7)), .ref 66]) rfl rfl rfl rfl ?_
                              refine jx_vr (pc' := 132) (as := [.int (i32 (7)), .int (i32 (r398)), .int (i32 (0)), .int (i32 (0)), .int (i32 (0))]) (st := []) rfl rfl rfl rfl ⟨rfl, rfl, Nat.le_of_ble_eq_true rfl⟩ rfl rfl (c_node_o (dd := d) (hd := by omega) (hW := hW470) (kind := 7) (a := r398) (b := 0) (c := 0) (e := 0) (nd := nd2_402) (e_nd := show (uG G446 15 ((op2_401 - 1))) 31 = nd2_402 from ((hF452.1 31 rfl).trans (e412))) (ec := ec2_404) (e_ec := show ecn A447 ((uG G446 15 ((op2_401 - 1))) 31) = ec2_404 from ec472)  (h_kind := ⟨(by decide), (by decide)⟩) (h_a := ⟨(Int.le_trans (by decide : (-2147483648 : Int) ≤ -2147483648) b408.1), (Int.le_trans b408.2 (by decide : (2147483647 : Int) ≤ 2147483647))⟩) (h_b := ⟨(by decide), (by decide)⟩) (h_c := ⟨(by decide), (by decide)⟩) (h_e := ⟨(by decide), (by decide)⟩)  (p_0 := by omega) (p_1 := by omega) (p_2 := by omega)) (fun o V' hq => ?_)
                              obtain ⟨G473, A474, nd2_475, ec2_476, rfl, rfl, hW477, hF478, hQ479, e480, e481, p482, p483, p484, -⟩ := hq
                              have hF486 := Fr_tr hF471 hF478 (Fr_sub (by decide)) (Fr_sub (by decide))
                              have hP487 := Pf_tr hP460 hQ479 (by omega)
                              have bnd2_475 : (0 : Int) ≤ nd2_475 ∧ nd2_475 ≤ 6999 := e480 ▸ hW477.1 31
                              refine .inr ⟨_, rfl, ?_⟩
                              refine jx_rt (v := some (.int (i32 (nd2_402)))) rfl rfl rfl rfl rfl rfl ?_
                              have z488 := tz_f (tk2_449)
                              exact ⟨_, _, _, at2_448, fk2_450, (op2_401 - 1), nd2_475, tk2_449, ec2_476, rfl, rfl, hW477, hF486, hP487, by omega, ((hF478.1 10 rfl).trans (e453)), ((hF478.1 16 rfl).trans (e455)), (hF478.1 15 rfl), (e480), ((hF478.1 11 rfl).trans (e454)), e481, by omega, by omega, by omega, by omega, by omega, by omega, by first | exact Or.inr (Or.inl (⟨by omega, by omega, by omega⟩))⟩
                            · have _q : True := trivial
                              exfalso
                              omega
                          · have _q : True := trivial
                            refine jx_vr (pc' := 112) (as := [.int (i32 (0))]) (st := []) rfl rfl rfl rfl ⟨rfl, rfl, Nat.le_of_ble_eq_true rfl⟩ rfl rfl (c_need (dd := d) (hd := by omega) (hW := hW405) (g := 0) (ln := ln) (e_ln := show G396 9 = ln from ((hF406.1 9 rfl).trans ((hF378.1 9 rfl).trans ((hF360.1 9 rfl).trans (e_ln))))) (le := le) (e_le := show A397 4 (ln).toNat = le from (congrFun ((hF406.2 4 rfl).trans ((hF378.2 4 rfl).trans (hF360.2 4 rfl))) _).trans (e_le)) (at0 := at2_399) (e_at0 := show G396 10 = at2_399 from (e409)) (fk := fk2_400) (e_fk := show G396 16 = fk2_400 from (e410)) (tk0 := tk2_403) (e_tk0 := show G396 11 = tk2_403 from (e413))  (h_g := ⟨(by decide), (by decide)⟩)  (p_0 := by omega)) (fun o V' hq => ?_)
                            obtain ⟨G489, A490, at2_491, tk2_492, fk2_493, rfl, rfl, hW494, hF495, e496, e497, e498, p499, p500, q501⟩ := hq
                            have hF502 := Fr_tr hF422 hF495 (Fr_sub (by decide)) (Fr_sub (by decide))
                            have hP503 := Pf_f hP423 hF495 (by decide)
                            have ec504 : ecn A490 (G489 31) = ec2_404 := (ecn_f (hF495.2 15 rfl) (hF495.1 31 rfl)).trans e414
                            have bat2_491 : (0 : Int) ≤ at2_491 ∧ at2_491 ≤ 3002 := e496 ▸ hW494.1 10
                            have ztk2_492 := tz_b tk2_492
                            have btk2_492 : (0 : Int) ≤ tk2_492 ∧ tk2_492 ≤ 5 := e497 ▸ hW494.1 11
                            have bfk2_493 : (0 : Int) ≤ fk2_493 ∧ fk2_493 ≤ 6 := e498 ▸ hW494.1 16
                            refine .inl ⟨rfl, ?_⟩
                            rcases q501 with ⟨a505, a506, a507, a508⟩ | ⟨a509, a510, a511, a512⟩
                            · have _q : True := trivial
                              refine jx_ld (pc' := 113) (l' := L438) (st' := [.ref 66]) rfl (jl_aloadn gL438_0) ?_
                              refine jx_ar (pc' := 114) (st' := [.ref 66, .ref 66]) rfl rfl rfl rfl ?_
                              refine jr_get (pc' := 117) (i := 15) (v := .int (i32 (op2_401))) rfl rfl (by decide) (rFv_eq (by decide) (show G489 15 = op2_401 from ((hF495.1 15 rfl).trans (e411)))) rfl ?_
                              refine jx_ar (pc' := 118) (st' := [.int (i32 (1)), .int (i32 (op2_401)), .ref 66]) rfl rfl rfl rfl ?_
                              refine jx_sub (pc' := 119) rfl rfl ?_
                              refine jr_put (pc' := 122) (i := 15) (z := (op2_401 - 1)) rfl rfl (by decide) rfl rfl rfl rfl rfl rfl ?_
                              have hW513 : Wk (uG G489 15 ((op2_401 - 1))) A490 := Wk_g hW494 (show (-2147483648 : Int) ≤ (op2_401 - 1) by omega) (show (op2_401 - 1) ≤ (2147483647 : Int) by omega)
                              have hF514 := Fr_g (z := (op2_401 - 1)) (i := 15) hF502 (by decide)
                              have ec515 : ecn A490 ((uG G489 15 ((op2_401 - 1))) 31) = ec2_404 := ec504
                              refine jx_ld (pc' := 123) (l' := L438) (st' := [.ref 66]) rfl (jl_aloadn gL438_0) ?_
                              refine jx_ar (pc' := 125) (st' := [.int (i32 (7)), .ref 66]) rfl rfl rfl rfl ?_
                              refine jx_ld (pc' := 126) (l' := L438) (st' := [.int (i32 (r398)), .int (i32 (7)), .ref 66]) rfl (jl_iloadn gL438_1) ?_
                              refine jx_ar (pc' := 127) (st' := [.int (i32 (0)), .int (i32 (r398)), .int (i32 (7)), .ref 66]) rfl rfl rfl rfl ?_
                              refine jx_ar (pc' := 128) (st' := [.int (i32 (0)), .int (i32 (0)), .int (i32 (r398)), .int (i32 (7)), .ref 66]) rfl rfl rfl rfl ?_
                              refine jx_ar (pc' := 129) (st' := [.int (i32 (0)), .int (i32 (0)), .int (i32 (0)), .int (i32 (r398)), .int (i32 (7)), .ref 66]) rfl rfl rfl rfl ?_
                              refine jx_vr (pc' := 132) (as := [.int (i32 (7)), .int (i32 (r398)), .int (i32 (0)), .int (i32 (0)), .int (i32 (0))]) (st := []) rfl rfl rfl rfl ⟨rfl, rfl, Nat.le_of_ble_eq_true rfl⟩ rfl rfl (c_node_o (dd := d) (hd := by omega) (hW := hW513) (kind := 7) (a := r398) (b := 0) (c := 0) (e := 0) (nd := nd2_402) (e_nd := show (uG G489 15 ((op2_401 - 1))) 31 = nd2_402 from ((hF495.1 31 rfl).trans (e412))) (ec := ec2_404) (e_ec := show ecn A490 ((uG G489 15 ((op2_401 - 1))) 31) = ec2_404 from ec515)  (h_kind := ⟨(by decide), (by decide)⟩) (h_a := ⟨(Int.le_trans (by decide : (-2147483648 : Int) ≤ -2147483648) b408.1), (Int.le_trans b408.2 (by decide : (2147483647 : Int) ≤ 2147483647))⟩) (h_b := ⟨(by decide), (by decide)⟩) (h_c := ⟨(by decide), (by decide)⟩) (h_e := ⟨(by decide), (by decide)⟩)  (p_0 := by omega) (p_1 := by omega) (p_2 := by omega)) (fun o V' hq => ?_)
                              obtain ⟨G516, A517, nd2_518, ec2_519, rfl, rfl, hW520, hF521, hQ522, e523, e524, p525, p526, p527, -⟩ := hq
                              have hF529 := Fr_tr hF514 hF521 (Fr_sub (by decide)) (Fr_sub (by decide))
                              have hP530 := Pf_tr hP503 hQ522 (by omega)
                              have bnd2_518 : (0 : Int) ≤ nd2_518 ∧ nd2_518 ≤ 6999 := e523 ▸ hW520.1 31
                              refine .inr ⟨_, rfl, ?_⟩
                              refine jx_rt (v := some (.int (i32 (nd2_402)))) rfl rfl rfl rfl rfl rfl ?_
                              have z531 := tz_f (tk2_492)
                              exact ⟨_, _, _, at2_491, fk2_493, (op2_401 - 1), nd2_518, tk2_492, ec2_519, rfl, rfl, hW520, hF529, hP530, by omega, ((hF521.1 10 rfl).trans (e496)), ((hF521.1 16 rfl).trans (e498)), (hF521.1 15 rfl), (e523), ((hF521.1 11 rfl).trans (e497)), e524, by omega, by omega, by omega, by omega, by omega, by omega, by first | exact Or.inr (Or.inl (⟨by omega, by omega, by omega⟩))⟩
                            · have _q : True := trivial
                              exfalso
                              omega
                        · have _q : True := trivial
                          exfalso
                          omega
                        · have _q : True := trivial
                          exfalso
                          omega
                      · have _q : True := trivial
                        exfalso
                        omega
                    · have _q : True := trivial
                      refine jx_ld (pc' := 93) (l' := [(0, .ref 66)]) (st' := [.ref 66]) rfl (jl_aloadn rfl) ?_
                      refine jx_ar (pc' := 94) (st' := [.int (i32 (1)), .ref 66]) rfl rfl rfl rfl ?_
                      refine jx_vr (pc' := 97) (as := [.int (i32 (1))]) (st := []) rfl rfl rfl rfl ⟨rfl, rfl, Nat.le_of_ble_eq_true rfl⟩ rfl rfl (c_need (dd := d) (hd := by omega) (hW := hW359) (g := 1) (ln := ln) (e_ln := show G355 9 = ln from ((hF360.1 9 rfl).trans (e_ln))) (le := le) (e_le := show A356 4 (ln).toNat = le from (congrFun (hF360.2 4 rfl) _).trans (e_le)) (at0 := at0) (e_at0 := show G355 10 = at0 from ((hF360.1 10 rfl).trans (e_at0))) (fk := fk2_357) (e_fk := show G355 16 = fk2_357 from (e361)) (tk0 := tk0) (e_tk0 := show G355 11 = tk0 from ((hF360.1 11 rfl).trans (e_tk0)))  (h_g := ⟨(by decide), (by decide)⟩)  (p_0 := by omega)) (fun o V' hq => ?_)
                      obtain ⟨G532, A533, at2_534, tk2_535, fk2_536, rfl, rfl, hW537, hF538, e539, e540, e541, p542, p543, q544⟩ := hq
                      have hF545 := Fr_tr hF365 hF538 (Fr_sub (by decide)) (Fr_sub (by decide))
                      have hP546 := Pf_f hP366 hF538 (by decide)
                      have ec547 : ecn A533 (G532 31) = ec := (ecn_f (hF538.2 15 rfl) (hF538.1 31 rfl)).trans ec367
                      have bat2_534 : (0 : Int) ≤ at2_534 ∧ at2_534 ≤ 3002 := e539 ▸ hW537.1 10
                      have ztk2_535 := tz_b tk2_535
                      have btk2_535 : (0 : Int) ≤ tk2_535 ∧ tk2_535 ≤ 5 := e540 ▸ hW537.1 11
                      have bfk2_536 : (0 : Int) ≤ fk2_536 ∧ fk2_536 ≤ 6 := e541 ▸ hW537.1 16
                      refine .inl ⟨rfl, ?_⟩
                      rcases q544 with ⟨a548, a549, a550, a551⟩ | ⟨a552, a553, a554, a555⟩
                      · have _q : True := trivial
                        refine jx_ld (pc' := 98) (l' := [(0, .ref 66)]) (st' := [.ref 66]) rfl (jl_aloadn rfl) ?_
                        refine jx_vr (pc' := 101) (as := []) (st := []) rfl rfl rfl rfl ⟨rfl, rfl, Nat.le_of_ble_eq_true rfl⟩ rfl rfl (hE (dd := d) (hd := by omega) (hW := hW537)  (ln := ln) (e_ln := show G532 9 = ln from ((hF538.1 9 rfl).trans ((hF360.1 9 rfl).trans (e_ln)))) (le := le) (e_le := show A533 4 (ln).toNat = le from (congrFun ((hF538.2 4 rfl).trans (hF360.2 4 rfl)) _).trans (e_le)) (at0 := at2_534) (e_at0 := show G532 10 = at2_534 from (e539)) (fk := fk2_536) (e_fk := show G532 16 = fk2_536 from (e541)) (op0 := op2_358) (e_op0 := show G532 15 = op2_358 from ((hF538.1 15 rfl).trans (e362))) (nd := nd) (e_nd := show G532 31 = nd from ((hF538.1 31 rfl).trans ((hF360.1 31 rfl).trans (e_nd)))) (tk0 := tk2_535) (e_tk0 := show G532 11 = tk2_535 from (e540)) (ec := ec) (e_ec := show ecn A533 (G532 31) = ec from ec547) (i_SV := (SV_ext (((hF538.1 29 rfl).trans (hF360.1 29 rfl))) (((hF538.2 14 rfl).trans (hF360.2 14 rfl))) i_SV))   (p_0 := by omega) (p_1 := by omega) (p_2 := by omega) (p_3 := by omega) (p_4 := by omega) (p_5 := by omega)) (fun o V' hq => ?_)
                        obtain ⟨G556, A557, r558, at2_559, fk2_560, op2_561, nd2_562, tk2_563, ec2_564, rfl, rfl, hW565, hF566, hQ567, b568, e569, e570, e571, e572, e573, e574, p575, p576, p577, p578, p579, p580, q581⟩ := hq
                        have hF582 := Fr_tr hF545 hF566 (Fr_sub (by decide)) (Fr_sub (by decide))
                        have hP583 := Pf_tr hP546 hQ567 (by omega)
                        have bat2_559 : (0 : Int) ≤ at2_559 ∧ at2_559 ≤ 3002 := e569 ▸ hW565.1 10
                        have bfk2_560 : (0 : Int) ≤ fk2_560 ∧ fk2_560 ≤ 6 := e570 ▸ hW565.1 16
                        have bop2_561 : (-2147483648 : Int) ≤ op2_561 ∧ op2_561 ≤ 2147483647 := e571 ▸ hW565.1 15
                        have bnd2_562 : (0 : Int) ≤ nd2_562 ∧ nd2_562 ≤ 6999 := e572 ▸ hW565.1 31
                        have ztk2_563 := tz_b tk2_563
                        have btk2_563 : (0 : Int) ≤ tk2_563 ∧ tk2_563 ≤ 5 := e573 ▸ hW565.1 11
                        refine .inr ⟨_, rfl, ?_⟩
                        rcases q581 with ⟨a584, a585, a586, a587, a588, a589⟩ | ⟨a590, a591, a592⟩ | ⟨a593, a594, a595, a596, a597⟩
                        · have _q : True := trivial
                          refine jx_ld (pc' := 102) (l' := jSto1 [(0, .ref 66)] 1 (.int (i32 (r558)))) (st' := []) rfl rfl ?_
                          obtain ⟨L598, eL598⟩ : ∃ q, q = jSto1 [(0, .ref 66)] 1 (.int (i32 (r558))) := ⟨_, rfl⟩
                          rw [← eL598]
                          have gL598_0 : jGet L598 0 = some (.ref 66) := eL598 ▸ jg_ne (by decide) (rfl : jGet [(0, .ref 66)] 0 = some (.ref 66)) rfl
                          have gL598_1 : jGet L598 1 = some (.int (i32 (r558))) := eL598 ▸ jg_eq
                          refine jx_ld (pc' := 103) (l' := L598) (st' := [.ref 66]) rfl (jl_aloadn gL598_0) ?_
                          refine jx_ld (pc' := 104) (l' := L598) (st' := [.ref 66, .ref 66]) rfl (jl_aloadn gL598_0) ?_
                          refine jx_ar (pc' := 106) (st' := [.int (i32 (41)), .ref 66, .ref 66]) rfl rfl rfl rfl ?_
                          have b599 : (-2147483648 : Int) ≤ G556 13 ∧ G556 13 ≤ 2147483647 := hW565.1 13
                          refine jx_vr (pc' := 109) (as := [.int (i32 (41))]) (st := [.ref 66]) rfl rfl rfl rfl ⟨rfl, rfl, Nat.le_of_ble_eq_true rfl⟩ rfl rfl (c_is (dd := d) (hd := by omega) (hW := hW565) (k := 41) (tk := tk2_563) (e_tk := show G556 11 = tk2_563 from (e573)) (tn := G556 13) (e_tn := show G556 13 = G556 13 from rfl)  (h_k := ⟨(by decide), (by decide)⟩)  ) (fun o V' hq => ?_)
                          obtain ⟨r600, rfl, rfl, b601, q602⟩ := hq
                          refine .inr ⟨_, rfl, ?_⟩
                          rcases q602 with ⟨rfl, a603, a604, a605⟩ | rfl
                          · have _q : True := trivial
                            refine jx_vr (pc' := 112) (as := [.int (i32 (1))]) (st := []) rfl rfl rfl rfl ⟨rfl, rfl, Nat.le_of_ble_eq_true rfl⟩ rfl rfl (c_need (dd := d) (hd := by omega) (hW := hW565) (g := 1) (ln := ln) (e_ln := show G556 9 = ln from ((hF566.1 9 rfl).trans ((hF538.1 9 rfl).trans ((hF360.1 9 rfl).trans (e_ln))))) (le := le) (e_le := show A557 4 (ln).toNat = le from (congrFun ((hF566.2 4 rfl).trans ((hF538.2 4 rfl).trans (hF360.2 4 rfl))) _).trans (e_le)) (at0 := at2_559) (e_at0 := show G556 10 = at2_559 from (e569)) (fk := fk2_560) (e_fk := show G556 16 = fk2_560 from (e570)) (tk0 := tk2_563) (e_tk0 := show G556 11 = tk2_563 from (e573))  (h_g := ⟨(by decide), (by decide)⟩)  (p_0 := by omega)) (fun o V' hq => ?_)
                            obtain ⟨G606, A607, at2_608, tk2_609, fk2_610, rfl, rfl, hW611, hF612, e613, e614, e615, p616, p617, q618⟩ := hq
                            have hF619 := Fr_tr hF582 hF612 (Fr_sub (by decide)) (Fr_sub (by decide))
                            have hP620 := Pf_f hP583 hF612 (by decide)
                            have ec621 : ecn A607 (G606 31) = ec2_564 := (ecn_f (hF612.2 15 rfl) (hF612.1 31 rfl)).trans e574
                            have bat2_608 : (0 : Int) ≤ at2_608 ∧ at2_608 ≤ 3002 := e613 ▸ hW611.1 10
                            have ztk2_609 := tz_b tk2_609
                            have btk2_609 : (0 : Int) ≤ tk2_609 ∧ tk2_609 ≤ 5 := e614 ▸ hW611.1 11
                            have bfk2_610 : (0 : Int) ≤ fk2_610 ∧ fk2_610 ≤ 6 := e615 ▸ hW611.1 16
                            refine .inl ⟨rfl, ?_⟩
                            rcases q618 with ⟨a622, a623, a624, a625⟩ | ⟨a626, a627, a628, a629⟩
                            · have _q : True := trivial
                              refine jx_ld (pc' := 113) (l' := L598) (st' := [.ref 66]) rfl (jl_aloadn gL598_0) ?_
                              refine jx_ar (pc' := 114) (st' := [.ref 66, .ref 66]) rfl rfl rfl rfl ?_
                              refine jr_get (pc' := 117) (i := 15) (v := .int (i32 (op2_561))) rfl rfl (by decide) (rFv_eq (by decide) (show G606 15 = op2_561 from ((hF612.1 15 rfl).trans (e571)))) rfl ?_
                              refine jx_ar (pc' := 118) (st' := [.int (i32 (1)), .int (i32 (op2_561)), .ref 66]) rfl rfl rfl rfl ?_
                              refine jx_sub (pc' := 119) rfl rfl ?_
                              refine jr_put (pc' := 122) (i := 15) (z := (op2_561 - 1)) rfl rfl (by decide) rfl rfl rfl rfl rfl rfl ?_
                              have hW630 : Wk (uG G606 15 ((op2_561 - 1))) A607 := Wk_g hW611 (show (-2147483648 : Int) ≤ (op2_561 - 1) by omega) (show (op2_561 - 1) ≤ (2147483647 : Int) by omega)
                              have hF631 := Fr_g (z := (op2_561 - 1)) (i := 15) hF619 (by decide)
                              have ec632 : ecn A607 ((uG G606 15 ((op2_561 - 1))) 31) = ec2_564 := ec621
                              refine jx_ld (pc' := 123) (l' := L598) (st' := [.ref 66]) rfl (jl_aloadn gL598_0) ?_
                              refine jx_ar (pc' := 125) (st' := [.int (i32 (7)), .ref 66]) rfl rfl rfl rfl ?_
                              refine jx_ld (pc' := 126) (l' := L598) (st' := [.int (i32 (r558)), .int (i32 (7)), .ref 66]) rfl (jl_iloadn gL598_1) ?_
                              refine jx_ar (pc' := 127) (st' := [.int (i32 (0)), .int (i32 (r558)), .int (i32 (7)), .ref 66]) rfl rfl rfl rfl ?_
                              refine jx_ar (pc' := 128) (st' := [.int (i32 (0)), .int (i32 (0)), .int (i32 (r558)), .int (i32 (7)), .ref 66]) rfl rfl rfl rfl ?_
                              refine jx_ar (pc' := 129) (st' := [.int (i32 (0)), .int (i32 (0)), .int (i32 (0)), .int (i32 (r558)), .int (i32 (7)), .ref 66]) rfl rfl rfl rfl ?_
                              refine jx_vr (pc' := 132) (as := [.int (i32 (7)), .int (i32 (r558)), .int (i32 (0)), .int (i32 (0)), .int (i32 (0))]) (st := []) rfl rfl rfl rfl ⟨rfl, rfl, Nat.le_of_ble_eq_true rfl⟩ rfl rfl (c_node_o (dd := d) (hd := by omega) (hW := hW630) (kind := 7) (a := r558) (b := 0) (c := 0) (e := 0) (nd := nd2_562) (e_nd := show (uG G606 15 ((op2_561 - 1))) 31 = nd2_562 from ((hF612.1 31 rfl).trans (e572))) (ec := ec2_564) (e_ec := show ecn A607 ((uG G606 15 ((op2_561 - 1))) 31) = ec2_564 from ec632)  (h_kind := ⟨(by decide), (by decide)⟩) (h_a := ⟨(Int.le_trans (by decide : (-2147483648 : Int) ≤ -2147483648) b568.1), (Int.le_trans b568.2 (by decide : (2147483647 : Int) ≤ 2147483647))⟩) (h_b := ⟨(by decide), (by decide)⟩) (h_c := ⟨(by decide), (by decide)⟩) (h_e := ⟨(by decide), (by decide)⟩)  (p_0 := by omega) (p_1 := by omega) (p_2 := by omega)) (fun o V' hq => ?_)
                              obtain ⟨G633, A634, nd2_635, ec2_636, rfl, rfl, hW637, hF638, hQ639, e640, e641, p642, p643, p644, -⟩ := hq
                              have hF646 := Fr_tr hF631 hF638 (Fr_sub (by decide)) (Fr_sub (by decide))
                              have hP647 := Pf_tr hP620 hQ639 (by omega)
                              have bnd2_635 : (0 : Int) ≤ nd2_635 ∧ nd2_635 ≤ 6999 := e640 ▸ hW637.1 31
                              refine .inr ⟨_, rfl, ?_⟩
                              refine jx_rt (v := some (.int (i32 (nd2_562)))) rfl rfl rfl rfl rfl rfl ?_
                              have z648 := tz_f (tk2_609)
                              exact ⟨_, _, _, at2_608, fk2_610, (op2_561 - 1), nd2_635, tk2_609, ec2_636, rfl, rfl, hW637, hF646, hP647, by omega, ((hF638.1 10 rfl).trans (e613)), ((hF638.1 16 rfl).trans (e615)), (hF638.1 15 rfl), (e640), ((hF638.1 11 rfl).trans (e614)), e641, by omega, by omega, by omega, by omega, by omega, by omega, by first | exact Or.inr (Or.inl (⟨by omega, by omega, by omega⟩))⟩
                            · have _q : True := trivial
                              exfalso
                              omega
                          · have _q : True := trivial
                            refine jx_vr (pc' := 112) (as := [.int (i32 (0))]) (st := []) rfl rfl rfl rfl ⟨rfl, rfl, Nat.le_of_ble_eq_true rfl⟩ rfl rfl (c_need (dd := d) (hd := by omega) (hW := hW565) (g := 0) (ln := ln) (e_ln := show G556 9 = ln from ((hF566.1 9 rfl).trans ((hF538.1 9 rfl).trans ((hF360.1 9 rfl).trans (e_ln))))) (le := le) (e_le := show A557 4 (ln).toNat = le from (congrFun ((hF566.2 4 rfl).trans ((hF538.2 4 rfl).trans (hF360.2 4 rfl))) _).trans (e_le)) (at0 := at2_559) (e_at0 := show G556 10 = at2_559 from (e569)) (fk := fk2_560) (e_fk := show G556 16 = fk2_560 from (e570)) (tk0 := tk2_563) (e_tk0 := show G556 11 = tk2_563 from (e573))  (h_g := ⟨(by decide), (by decide)⟩)  (p_0 := by omega)) (fun o V' hq => ?_)
                            obtain ⟨G649, A650, at2_651, tk2_652, fk2_653, rfl, rfl, hW654, hF655, e656, e657, e658, p659, p660, q661⟩ := hq
                            have hF662 := Fr_tr hF582 hF655 (Fr_sub (by decide)) (Fr_sub (by decide))
                            have hP663 := Pf_f hP583 hF655 (by decide)
                            have ec664 : ecn A650 (G649 31) = ec2_564 := (ecn_f (hF655.2 15 rfl) (hF655.1 31 rfl)).trans e574
                            have bat2_651 : (0 : Int) ≤ at2_651 ∧ at2_651 ≤ 3002 := e656 ▸ hW654.1 10
                            have ztk2_652 := tz_b tk2_652
                            have btk2_652 : (0 : Int) ≤ tk2_652 ∧ tk2_652 ≤ 5 := e657 ▸ hW654.1 11
                            have bfk2_653 : (0 : Int) ≤ fk2_653 ∧ fk2_653 ≤ 6 := e658 ▸ hW654.1 16
                            refine .inl ⟨rfl, ?_⟩
                            rcases q661 with ⟨a665, a666, a667, a668⟩ | ⟨a669, a670, a671, a672⟩
                            · have _q : True := trivial
                              refine jx_ld (pc' := 113) (l' := L598) (st' := [.ref 66]) rfl (jl_aloadn gL598_0) ?_
                              refine jx_ar (pc' := 114) (st' := [.ref 66, .ref 66]) rfl rfl rfl rfl ?_
                              refine jr_get (pc' := 117) (i := 15) (v := .int (i32 (op2_561))) rfl rfl (by decide) (rFv_eq (by decide) (show G649 15 = op2_561 from ((hF655.1 15 rfl).trans (e571)))) rfl ?_
                              refine jx_ar (pc' := 118) (st' := [.int (i32 (1)), .int (i32 (op2_561)), .ref 66]) rfl rfl rfl rfl ?_
                              refine jx_sub (pc' := 119) rfl rfl ?_
                              refine jr_put (pc' := 122) (i := 15) (z := (op2_561 - 1)) rfl rfl (by decide) rfl rfl rfl rfl rfl rfl ?_
                              have hW673 : Wk (uG G649 15 ((op2_561 - 1))) A650 := Wk_g hW654 (show (-2147483648 : Int) ≤ (op2_561 - 1) by omega) (show (op2_561 - 1) ≤ (2147483647 : Int) by omega)
                              have hF674 := Fr_g (z := (op2_561 - 1)) (i := 15) hF662 (by decide)
                              have ec675 : ecn A650 ((uG G649 15 ((op2_561 - 1))) 31) = ec2_564 := ec664
                              refine jx_ld (pc' := 123) (l' := L598) (st' := [.ref 66]) rfl (jl_aloadn gL598_0) ?_
                              refine jx_ar (pc' := 125) (st' := [.int (i32 (7)), .ref 66]) rfl rfl rfl rfl ?_
                              refine jx_ld (pc' := 126) (l' := L598) (st' := [.int (i32 (r558)), .int (i32 (7)), .ref 66]) rfl (jl_iloadn gL598_1) ?_
                              refine jx_ar (pc' := 127) (st' := [.int (i32 (0)), .int (i32 (r558)), .int (i32 (7)), .ref 66]) rfl rfl rfl rfl ?_
                              refine jx_ar (pc' := 128) (st' := [.int (i32 (0)), .int (i32 (0)), .int (i32 (r558)), .int (i32 (7)), .ref 66]) rfl rfl rfl rfl ?_
                              refine jx_ar (pc' := 129) (st' := [.int (i32 (0)), .int (i32 (0)), .int (i32 (0)), .int (i32 (r558)), .int (i32 (7)), .ref 66]) rfl rfl rfl rfl ?_
                              refine jx_vr (pc' := 132) (as := [.int (i32 (7)), .int (i32 (r558)), .int (i32 (0)), .int (i32 (0)), .int (i32 (0))]) (st := []) rfl rfl rfl rfl ⟨rfl, rfl, Nat.le_of_ble_eq_true rfl⟩ rfl rfl (c_node_o (dd := d) (hd := by omega) (hW := hW673) (kind := 7) (a := r558) (b := 0) (c := 0) (e := 0) (nd := nd2_562) (e_nd := show (uG G649 15 ((op2_561 - 1))) 31 = nd2_562 from ((hF655.1 31 rfl).trans (e572))) (ec := ec2_564) (e_ec := show ecn A650 ((uG G649 15 ((op2_561 - 1))) 31) = ec2_564 from ec675)  (h_kind := ⟨(by decide), (by decide)⟩) (h_a := ⟨(Int.le_trans (by decide : (-2147483648 : Int) ≤ -2147483648) b568.1), (Int.le_trans b568.2 (by decide : (2147483647 : Int) ≤ 2147483647))⟩) (h_b := ⟨(by decide), (by decide)⟩) (h_c := ⟨(by decide), (by decide)⟩) (h_e := ⟨(by decide), (by decide)⟩)  (p_0 := by omega) (p_1 := by omega) (p_2 := by omega)) (fun o V' hq => ?_)
                              obtain ⟨G676, A677, nd2_678, ec2_679, rfl, rfl, hW680, hF681, hQ682, e683, e684, p685, p686, p687, -⟩ := hq
                              have hF689 := Fr_tr hF674 hF681 (Fr_sub (by decide)) (Fr_sub (by decide))
                              have hP690 := Pf_tr hP663 hQ682 (by omega)
                              have bnd2_678 : (0 : Int) ≤ nd2_678 ∧ nd2_678 ≤ 6999 := e683 ▸ hW680.1 31
                              refine .inr ⟨_, rfl, ?_⟩
                              refine jx_rt (v := some (.int (i32 (nd2_562)))) rfl rfl rfl rfl rfl rfl ?_
                              have z691 := tz_f (tk2_652)
                              exact ⟨_, _, _, at2_651, fk2_653, (op2_561 - 1), nd2_678, tk2_652, ec2_679, rfl, rfl, hW680, hF689, hP690, by omega, ((hF681.1 10 rfl).trans (e656)), ((hF681.1 16 rfl).trans (e658)), (hF681.1 15 rfl), (e683), ((hF681.1 11 rfl).trans (e657)), e684, by omega, by omega, by omega, by omega, by omega, by omega, by first | exact Or.inr (Or.inl (⟨by omega, by omega, by omega⟩))⟩
                            · have _q : True := trivial
                              exfalso
                              omega
                        · have _q : True := trivial
                          exfalso
                          omega
                        · have _q : True := trivial
                          exfalso
                          omega
                      · have _q : True := trivial
                        refine jx_ld (pc' := 98) (l' := [(0, .ref 66)]) (st' := [.ref 66]) rfl (jl_aloadn rfl) ?_
                        refine jx_vr (pc' := 101) (as := []) (st := []) rfl rfl rfl rfl ⟨rfl, rfl, Nat.le_of_ble_eq_true rfl⟩ rfl rfl (hE (dd := d) (hd := by omega) (hW := hW537)  (ln := ln) (e_ln := show G532 9 = ln from ((hF538.1 9 rfl).trans ((hF360.1 9 rfl).trans (e_ln)))) (le := le) (e_le := show A533 4 (ln).toNat = le from (congrFun ((hF538.2 4 rfl).trans (hF360.2 4 rfl)) _).trans (e_le)) (at0 := at2_534) (e_at0 := show G532 10 = at2_534 from (e539)) (fk := fk2_536) (e_fk := show G532 16 = fk2_536 from (e541)) (op0 := op2_358) (e_op0 := show G532 15 = op2_358 from ((hF538.1 15 rfl).trans (e362))) (nd := nd) (e_nd := show G532 31 = nd from ((hF538.1 31 rfl).trans ((hF360.1 31 rfl).trans (e_nd)))) (tk0 := tk2_535) (e_tk0 := show G532 11 = tk2_535 from (e540)) (ec := ec) (e_ec := show ecn A533 (G532 31) = ec from ec547) (i_SV := (SV_ext (((hF538.1 29 rfl).trans (hF360.1 29 rfl))) (((hF538.2 14 rfl).trans (hF360.2 14 rfl))) i_SV))   (p_0 := by omega) (p_1 := by omega) (p_2 := by omega) (p_3 := by omega) (p_4 := by omega) (p_5 := by omega)) (fun o V' hq => ?_)
                        obtain ⟨G692, A693, r694, at2_695, fk2_696, op2_697, nd2_698, tk2_699, ec2_700, rfl, rfl, hW701, hF702, hQ703, b704, e705, e706, e707, e708, e709, e710, p711, p712, p713, p714, p715, p716, q717⟩ := hq
                        have hF718 := Fr_tr hF545 hF702 (Fr_sub (by decide)) (Fr_sub (by decide))
                        have hP719 := Pf_tr hP546 hQ703 (by omega)
                        have bat2_695 : (0 : Int) ≤ at2_695 ∧ at2_695 ≤ 3002 := e705 ▸ hW701.1 10
                        have bfk2_696 : (0 : Int) ≤ fk2_696 ∧ fk2_696 ≤ 6 := e706 ▸ hW701.1 16
                        have bop2_697 : (-2147483648 : Int) ≤ op2_697 ∧ op2_697 ≤ 2147483647 := e707 ▸ hW701.1 15
                        have bnd2_698 : (0 : Int) ≤ nd2_698 ∧ nd2_698 ≤ 6999 := e708 ▸ hW701.1 31
                        have ztk2_699 := tz_b tk2_699
                        have btk2_699 : (0 : Int) ≤ tk2_699 ∧ tk2_699 ≤ 5 := e709 ▸ hW701.1 11
                        refine .inr ⟨_, rfl, ?_⟩
                        rcases q717 with ⟨a720, a721, a722, a723, a724, a725⟩ | ⟨a726, a727, a728⟩ | ⟨a729, a730, a731, a732, a733⟩
                        · have _q : True := trivial
                          exfalso
                          omega
                        · have _q : True := trivial
                          refine jx_ld (pc' := 102) (l' := jSto1 [(0, .ref 66)] 1 (.int (i32 (r694)))) (st' := []) rfl rfl ?_
                          obtain ⟨L734, eL734⟩ : ∃ q, q = jSto1 [(0, .ref 66)] 1 (.int (i32 (r694))) := ⟨_, rfl⟩
                          rw [← eL734]
                          have gL734_0 : jGet L734 0 = some (.ref 66) := eL734 ▸ jg_ne (by decide) (rfl : jGet [(0, .ref 66)] 0 = some (.ref 66)) rfl
                          have gL734_1 : jGet L734 1 = some (.int (i32 (r694))) := eL734 ▸ jg_eq
                          refine jx_ld (pc' := 103) (l' := L734) (st' := [.ref 66]) rfl (jl_aloadn gL734_0) ?_
                          refine jx_ld (pc' := 104) (l' := L734) (st' := [.ref 66, .ref 66]) rfl (jl_aloadn gL734_0) ?_
                          refine jx_ar (pc' := 106) (st' := [.int (i32 (41)), .ref 66, .ref 66]) rfl rfl rfl rfl ?_
                          have b735 : (-2147483648 : Int) ≤ G692 13 ∧ G692 13 ≤ 2147483647 := hW701.1 13
                          refine jx_vr (pc' := 109) (as := [.int (i32 (41))]) (st := [.ref 66]) rfl rfl rfl rfl ⟨rfl, rfl, Nat.le_of_ble_eq_true rfl⟩ rfl rfl (c_is (dd := d) (hd := by omega) (hW := hW701) (k := 41) (tk := tk2_699) (e_tk := show G692 11 = tk2_699 from (e709)) (tn := G692 13) (e_tn := show G692 13 = G692 13 from rfl)  (h_k := ⟨(by decide), (by decide)⟩)  ) (fun o V' hq => ?_)
                          obtain ⟨r736, rfl, rfl, b737, q738⟩ := hq
                          refine .inr ⟨_, rfl, ?_⟩
                          rcases q738 with ⟨rfl, a739, a740, a741⟩ | rfl
                          · have _q : True := trivial
                            refine jx_vr (pc' := 112) (as := [.int (i32 (1))]) (st := []) rfl rfl rfl rfl ⟨rfl, rfl, Nat.le_of_ble_eq_true rfl⟩ rfl rfl (c_need (dd := d) (hd := by omega) (hW := hW701) (g := 1) (ln := ln) (e_ln := show G692 9 = ln from ((hF702.1 9 rfl).trans ((hF538.1 9 rfl).trans ((hF360.1 9 rfl).trans (e_ln))))) (le := le) (e_le := show A693 4 (ln).toNat = le from (congrFun ((hF702.2 4 rfl).trans ((hF538.2 4 rfl).trans (hF360.2 4 rfl))) _).trans (e_le)) (at0 := at2_695) (e_at0 := show G692 10 = at2_695 from (e705)) (fk := fk2_696) (e_fk := show G692 16 = fk2_696 from (e706)) (tk0 := tk2_699) (e_tk0 := show G692 11 = tk2_699 from (e709))  (h_g := ⟨(by decide), (by decide)⟩)  (p_0 := by omega)) (fun o V' hq => ?_)
                            obtain ⟨G742, A743, at2_744, tk2_745, fk2_746, rfl, rfl, hW747, hF748, e749, e750, e751, p752, p753, q754⟩ := hq
                            have hF755 := Fr_tr hF718 hF748 (Fr_sub (by decide)) (Fr_sub (by decide))
                            have hP756 := Pf_f hP719 hF748 (by decide)
                            have ec757 : ecn A743 (G742 31) = ec2_700 := (ecn_f (hF748.2 15 rfl) (hF748.1 31 rfl)).trans e710
                            have bat2_744 : (0 : Int) ≤ at2_744 ∧ at2_744 ≤ 3002 := e749 ▸ hW747.1 10
                            have ztk2_745 := tz_b tk2_745
                            have btk2_745 : (0 : Int) ≤ tk2_745 ∧ tk2_745 ≤ 5 := e750 ▸ hW747.1 11
                            have bfk2_746 : (0 : Int) ≤ fk2_746 ∧ fk2_746 ≤ 6 := e751 ▸ hW747.1 16
                            refine .inl ⟨rfl, ?_⟩
                            rcases q754 with ⟨a758, a759, a760, a761⟩ | ⟨a762, a763, a764, a765⟩
                            · have _q : True := trivial
                              refine jx_ld (pc' := 113) (l' := L734) (st' := [.ref 66]) rfl (jl_aloadn gL734_0) ?_
                              refine jx_ar (pc' := 114) (st' := [.ref 66, .ref 66]) rfl rfl rfl rfl ?_
                              refine jr_get (pc' := 117) (i := 15) (v := .int (i32 (op2_697))) rfl rfl (by decide) (rFv_eq (by decide) (show G742 15 = op2_697 from ((hF748.1 15 rfl).trans (e707)))) rfl ?_
                              refine jx_ar (pc' := 118) (st' := [.int (i32 (1)), .int (i32 (op2_697)), .ref 66]) rfl rfl rfl rfl ?_
                              refine jx_sub (pc' := 119) rfl rfl ?_
                              refine jr_put (pc' := 122) (i := 15) (z := (op2_697 - 1)) rfl rfl (by decide) rfl rfl rfl rfl rfl rfl ?_
                              have hW766 : Wk (uG G742 15 ((op2_697 - 1))) A743 := Wk_g hW747 (show (-2147483648 : Int) ≤ (op2_697 - 1) by omega) (show (op2_697 - 1) ≤ (2147483647 : Int) by omega)
                              have hF767 := Fr_g (z := (op2_697 - 1)) (i := 15) hF755 (by decide)
                              have ec768 : ecn A743 ((uG G742 15 ((op2_697 - 1))) 31) = ec2_700 := ec757
                              refine jx_ld (pc' := 123) (l' := L734) (st' := [.ref 66]) rfl (jl_aloadn gL734_0) ?_
                              refine jx_ar (pc' := 125) (st' := [.int (i32 (7)), .ref 66]) rfl rfl rfl rfl ?_
                              refine jx_ld (pc' := 126) (l' := L734) (st' := [.int (i32 (r694)), .int (i32 (7)), .ref 66]) rfl (jl_iloadn gL734_1) ?_
                              refine jx_ar (pc' := 127) (st' := [.int (i32 (0)), .int (i32 (r694)), .int (i32 (7)), .ref 66]) rfl rfl rfl rfl ?_
                              refine jx_ar (pc' := 128) (st' := [.int (i32 (0)), .int (i32 (0)), .int (i32 (r694)), .int (i32 (7)), .ref 66]) rfl rfl rfl rfl ?_
                              refine jx_ar (pc' := 129) (st' := [.int (i32 (0)), .int (i32 (0)), .int (i32 (0)), .int (i32 (r694)), .int (i32 (7)), .ref 66]) rfl rfl rfl rfl ?_
                              refine jx_vr (pc' := 132) (as := [.int (i32 (7)), .int (i32 (r694)), .int (i32 (0)), .int (i32 (0)), .int (i32 (0))]) (st := []) rfl rfl rfl rfl ⟨rfl, rfl, Nat.le_of_ble_eq_true rfl⟩ rfl rfl (c_node_o (dd := d) (hd := by omega) (hW := hW766) (kind := 7) (a := r694) (b := 0) (c := 0) (e := 0) (nd := nd2_698) (e_nd := show (uG G742 15 ((op2_697 - 1))) 31 = nd2_698 from ((hF748.1 31 rfl).trans (e708))) (ec := ec2_700) (e_ec := show ecn A743 ((uG G742 15 ((op2_697 - 1))) 31) = ec2_700 from ec768)  (h_kind := ⟨(by decide), (by decide)⟩) (h_a := ⟨(Int.le_trans (by decide : (-2147483648 : Int) ≤ -2147483648) b704.1), (Int.le_trans b704.2 (by decide : (2147483647 : Int) ≤ 2147483647))⟩) (h_b := ⟨(by decide), (by decide)⟩) (h_c := ⟨(by decide), (by decide)⟩) (h_e := ⟨(by decide), (by decide)⟩)  (p_0 := by omega) (p_1 := by omega) (p_2 := by omega)) (fun o V' hq => ?_)
                              obtain ⟨G769, A770, nd2_771, ec2_772, rfl, rfl, hW773, hF774, hQ775, e776, e777, p778, p779, p780, -⟩ := hq
                              have hF782 := Fr_tr hF767 hF774 (Fr_sub (by decide)) (Fr_sub (by decide))
                              have hP783 := Pf_tr hP756 hQ775 (by omega)
                              have bnd2_771 : (0 : Int) ≤ nd2_771 ∧ nd2_771 ≤ 6999 := e776 ▸ hW773.1 31
                              refine .inr ⟨_, rfl, ?_⟩
                              refine jx_rt (v := some (.int (i32 (nd2_698)))) rfl rfl rfl rfl rfl rfl ?_
                              have z784 := tz_f (tk2_745)
                              exact ⟨_, _, _, at2_744, fk2_746, (op2_697 - 1), nd2_771, tk2_745, ec2_772, rfl, rfl, hW773, hF782, hP783, by omega, ((hF774.1 10 rfl).trans (e749)), ((hF774.1 16 rfl).trans (e751)), (hF774.1 15 rfl), (e776), ((hF774.1 11 rfl).trans (e750)), e777, by omega, by omega, by omega, by omega, by omega, by omega, by first | exact Or.inr (Or.inl (⟨by omega, by omega, by omega⟩))⟩
                            · have _q : True := trivial
                              exfalso
                              omega
                          · have _q : True := trivial
                            refine jx_vr (pc' := 112) (as := [.int (i32 (0))]) (st := []) rfl rfl rfl rfl ⟨rfl, rfl, Nat.le_of_ble_eq_true rfl⟩ rfl rfl (c_need (dd := d) (hd := by omega) (hW := hW701) (g := 0) (ln := ln) (e_ln := show G692 9 = ln from ((hF702.1 9 rfl).trans ((hF538.1 9 rfl).trans ((hF360.1 9 rfl).trans (e_ln))))) (le := le) (e_le := show A693 4 (ln).toNat = le from (congrFun ((hF702.2 4 rfl).trans ((hF538.2 4 rfl).trans (hF360.2 4 rfl))) _).trans (e_le)) (at0 := at2_695) (e_at0 := show G692 10 = at2_695 from (e705)) (fk := fk2_696) (e_fk := show G692 16 = fk2_696 from (e706)) (tk0 := tk2_699) (e_tk0 := show G692 11 = tk2_699 from (e709))  (h_g := ⟨(by decide), (by decide)⟩)  (p_0 := by omega)) (fun o V' hq => ?_)
                            obtain ⟨G785, A786, at2_787, tk2_788, fk2_789, rfl, rfl, hW790, hF791, e792, e793, e794, p795, p796, q797⟩ := hq
                            have hF798 := Fr_tr hF718 hF791 (Fr_sub (by decide)) (Fr_sub (by decide))
                            have hP799 := Pf_f hP719 hF791 (by decide)
                            have ec800 : ecn A786 (G785 31) = ec2_700 := (ecn_f (hF791.2 15 rfl) (hF791.1 31 rfl)).trans e710
                            have bat2_787 : (0 : Int) ≤ at2_787 ∧ at2_787 ≤ 3002 := e792 ▸ hW790.1 10
                            have ztk2_788 := tz_b tk2_788
                            have btk2_788 : (0 : Int) ≤ tk2_788 ∧ tk2_788 ≤ 5 := e793 ▸ hW790.1 11
                            have bfk2_789 : (0 : Int) ≤ fk2_789 ∧ fk2_789 ≤ 6 := e794 ▸ hW790.1 16
                            refine .inl ⟨rfl, ?_⟩
                            rcases q797 with ⟨a801, a802, a803, a804⟩ | ⟨a805, a806, a807, a808⟩
                            · have _q : True := trivial
                              refine jx_ld (pc' := 113) (l' := L734) (st' := [.ref 66]) rfl (jl_aloadn gL734_0) ?_
                              refine jx_ar (pc' := 114) (st' := [.ref 66, .ref 66]) rfl rfl rfl rfl ?_
                              refine jr_get (pc' := 117) (i := 15) (v := .int (i32 (op2_697))) rfl rfl (by decide) (rFv_eq (by decide) (show G785 15 = op2_697 from ((hF791.1 15 rfl).trans (e707)))) rfl ?_
                              refine jx_ar (pc' := 118) (st' := [.int (i32 (1)), .int (i32 (op2_697)), .ref 66]) rfl rfl rfl rfl ?_
                              refine jx_sub (pc' := 119) rfl rfl ?_
                              refine jr_put (pc' := 122) (i := 15) (z := (op2_697 - 1)) rfl rfl (by decide) rfl rfl rfl rfl rfl rfl ?_
                              have hW809 : Wk (uG G785 15 ((op2_697 - 1))) A786 := Wk_g hW790 (show (-2147483648 : Int) ≤ (op2_697 - 1) by omega) (show (op2_697 - 1) ≤ (2147483647 : Int) by omega)
                              have hF810 := Fr_g (z := (op2_697 - 1)) (i := 15) hF798 (by decide)
                              have ec811 : ecn A786 ((uG G785 15 ((op2_697 - 1))) 31) = ec2_700 := ec800
                              refine jx_ld (pc' := 123) (l' := L734) (st' := [.ref 66]) rfl (jl_aloadn gL734_0) ?_
                              refine jx_ar (pc' := 125) (st' := [.int (i32 (7)), .ref 66]) rfl rfl rfl rfl ?_
                              refine jx_ld (pc' := 126) (l' := L734) (st' := [.int (i32 (r694)), .int (i32 (7)), .ref 66]) rfl (jl_iloadn gL734_1) ?_
                              refine jx_ar (pc' := 127) (st' := [.int (i32 (0)), .int (i32 (r694)), .int (i32 (7)), .ref 66]) rfl rfl rfl rfl ?_
                              refine jx_ar (pc' := 128) (st' := [.int (i32 (0)), .int (i32 (0)), .int (i32 (r694)), .int (i32 (7)), .ref 66]) rfl rfl rfl rfl ?_
                              refine jx_ar (pc' := 129) (st' := [.int (i32 (0)), .int (i32 (0)), .int (i32 (0)), .int (i32 (r694)), .int (i32 (7)), .ref 66]) rfl rfl rfl rfl ?_
                              refine jx_vr (pc' := 132) (as := [.int (i32 (7)), .int (i32 (r694)), .int (i32 (0)), .int (i32 (0)), .int (i32 (0))]) (st := []) rfl rfl rfl rfl ⟨rfl, rfl, Nat.le_of_ble_eq_true rfl⟩ rfl rfl (c_node_o (dd := d) (hd := by omega) (hW := hW809) (kind := 7) (a := r694) (b := 0) (c := 0) (e := 0) (nd := nd2_698) (e_nd := show (uG G785 15 ((op2_697 - 1))) 31 = nd2_698 from ((hF791.1 31 rfl).trans (e708))) (ec := ec2_700) (e_ec := show ecn A786 ((uG G785 15 ((op2_697 - 1))) 31) = ec2_700 from ec811)  (h_kind := ⟨(by decide), (by decide)⟩) (h_a := ⟨(Int.le_trans (by decide : (-2147483648 : Int) ≤ -2147483648) b704.1), (Int.le_trans b704.2 (by decide : (2147483647 : Int) ≤ 2147483647))⟩) (h_b := ⟨(by decide), (by decide)⟩) (h_c := ⟨(by decide), (by decide)⟩) (h_e := ⟨(by decide), (by decide)⟩)  (p_0 := by omega) (p_1 := by omega) (p_2 := by omega)) (fun o V' hq => ?_)
                              obtain ⟨G812, A813, nd2_814, ec2_815, rfl, rfl, hW816, hF817, hQ818, e819, e820, p821, p822, p823, -⟩ := hq
                              have hF825 := Fr_tr hF810 hF817 (Fr_sub (by decide)) (Fr_sub (by decide))
                              have hP826 := Pf_tr hP799 hQ818 (by omega)
                              have bnd2_814 : (0 : Int) ≤ nd2_814 ∧ nd2_814 ≤ 6999 := e819 ▸ hW816.1 31
                              refine .inr ⟨_, rfl, ?_⟩
                              refine jx_rt (v := some (.int (i32 (nd2_698)))) rfl rfl rfl rfl rfl rfl ?_
                              have z827 := tz_f (tk2_788)
                              exact ⟨_, _, _, at2_787, fk2_789, (op2_697 - 1), nd2_814, tk2_788, ec2_815, rfl, rfl, hW816, hF825, hP826, by omega, ((hF817.1 10 rfl).trans (e792)), ((hF817.1 16 rfl).trans (e794)), (hF817.1 15 rfl), (e819), ((hF817.1 11 rfl).trans (e793)), e820, by omega, by omega, by omega, by omega, by omega, by omega, by first | exact Or.inr (Or.inl (⟨by omega, by omega, by omega⟩))⟩
                            · have _q : True := trivial
                              exfalso
                              omega
                        · have _q : True := trivial
                          refine jx_ld (pc' := 102) (l' := jSto1 [(0, .ref 66)] 1 (.int (i32 (r694)))) (st' := []) rfl rfl ?_
                          obtain ⟨L828, eL828⟩ : ∃ q, q = jSto1 [(0, .ref 66)] 1 (.int (i32 (r694))) := ⟨_, rfl⟩
                          rw [← eL828]
                          have gL828_0 : jGet L828 0 = some (.ref 66) := eL828 ▸ jg_ne (by decide) (rfl : jGet [(0, .ref 66)] 0 = some (.ref 66)) rfl
                          have gL828_1 : jGet L828 1 = some (.int (i32 (r694))) := eL828 ▸ jg_eq
                          refine jx_ld (pc' := 103) (l' := L828) (st' := [.ref 66]) rfl (jl_aloadn gL828_0) ?_
                          refine jx_ld (pc' := 104) (l' := L828) (st' := [.ref 66, .ref 66]) rfl (jl_aloadn gL828_0) ?_
                          refine jx_ar (pc' := 106) (st' := [.int (i32 (41)), .ref 66, .ref 66]) rfl rfl rfl rfl ?_
                          have b829 : (-2147483648 : Int) ≤ G692 13 ∧ G692 13 ≤ 2147483647 := hW701.1 13
                          refine jx_vr (pc' := 109) (as := [.int (i32 (41))]) (st := [.ref 66]) rfl rfl rfl rfl ⟨rfl, rfl, Nat.le_of_ble_eq_true rfl⟩ rfl rfl (c_is (dd := d) (hd := by omega) (hW := hW701) (k := 41) (tk := tk2_699) (e_tk := show G692 11 = tk2_699 from (e709)) (tn := G692 13) (e_tn := show G692 13 = G692 13 from rfl)  (h_k := ⟨(by decide), (by decide)⟩)  ) (fun o V' hq => ?_)
                          obtain ⟨r830, rfl, rfl, b831, q832⟩ := hq
                          refine .inr ⟨_, rfl, ?_⟩
                          rcases q832 with ⟨rfl, a833, a834, a835⟩ | rfl
                          · have _q : True := trivial
                            refine jx_vr (pc' := 112) (as := [.int (i32 (1))]) (st := []) rfl rfl rfl rfl ⟨rfl, rfl, Nat.le_of_ble_eq_true rfl⟩ rfl rfl (c_need (dd := d) (hd := by omega) (hW := hW701) (g := 1) (ln := ln) (e_ln := show G692 9 = ln from ((hF702.1 9 rfl).trans ((hF538.1 9 rfl).trans ((hF360.1 9 rfl).trans (e_ln))))) (le := le) (e_le := show A693 4 (ln).toNat = le from (congrFun ((hF702.2 4 rfl).trans ((hF538.2 4 rfl).trans (hF360.2 4 rfl))) _).trans (e_le)) (at0 := at2_695) (e_at0 := show G692 10 = at2_695 from (e705)) (fk := fk2_696) (e_fk := show G692 16 = fk2_696 from (e706)) (tk0 := tk2_699) (e_tk0 := show G692 11 = tk2_699 from (e709))  (h_g := ⟨(by decide), (by decide)⟩)  (p_0 := by omega)) (fun o V' hq => ?_)
                            obtain ⟨G836, A837, at2_838, tk2_839, fk2_840, rfl, rfl, hW841, hF842, e843, e844, e845, p846, p847, q848⟩ := hq
                            have hF849 := Fr_tr hF718 hF842 (Fr_sub (by decide)) (Fr_sub (by decide))
                            have hP850 := Pf_f hP719 hF842 (by decide)
                            have sf851 : wE A837 Vs sb (2 * k + 2) (r694) (nd) (nd2_698) := wE_ag (by omega) (Sg_fr hF842 (by decide)) (Ag_fr hF842 (by decide)) a732
                            have ec852 : ecn A837 (G836 31) = ec2_700 := (ecn_f (hF842.2 15 rfl) (hF842.1 31 rfl)).trans e710
                            have bat2_838 : (0 : Int) ≤ at2_838 ∧ at2_838 ≤ 3002 := e843 ▸ hW841.1 10
                            have ztk2_839 := tz_b tk2_839
                            have btk2_839 : (0 : Int) ≤ tk2_839 ∧ tk2_839 ≤ 5 := e844 ▸ hW841.1 11
                            have bfk2_840 : (0 : Int) ≤ fk2_840 ∧ fk2_840 ≤ 6 := e845 ▸ hW841.1 16
                            refine .inl ⟨rfl, ?_⟩
                            rcases q848 with ⟨a853, a854, a855, a856⟩ | ⟨a857, a858, a859, a860⟩
                            · have _q : True := trivial
                              refine jx_ld (pc' := 113) (l' := L828) (st' := [.ref 66]) rfl (jl_aloadn gL828_0) ?_
                              refine jx_ar (pc' := 114) (st' := [.ref 66, .ref 66]) rfl rfl rfl rfl ?_
                              refine jr_get (pc' := 117) (i := 15) (v := .int (i32 (op2_697))) rfl rfl (by decide) (rFv_eq (by decide) (show G836 15 = op2_697 from ((hF842.1 15 rfl).trans (e707)))) rfl ?_
                              refine jx_ar (pc' := 118) (st' := [.int (i32 (1)), .int (i32 (op2_697)), .ref 66]) rfl rfl rfl rfl ?_
                              refine jx_sub (pc' := 119) rfl rfl ?_
                              refine jr_put (pc' := 122) (i := 15) (z := (op2_697 - 1)) rfl rfl (by decide) rfl rfl rfl rfl rfl rfl ?_
                              have hW861 : Wk (uG G836 15 ((op2_697 - 1))) A837 := Wk_g hW841 (show (-2147483648 : Int) ≤ (op2_697 - 1) by omega) (show (op2_697 - 1) ≤ (2147483647 : Int) by omega)
                              have hF862 := Fr_g (z := (op2_697 - 1)) (i := 15) hF849 (by decide)
                              have ec863 : ecn A837 ((uG G836 15 ((op2_697 - 1))) 31) = ec2_700 := ec852
                              refine jx_ld (pc' := 123) (l' := L828) (st' := [.ref 66]) rfl (jl_aloadn gL828_0) ?_
                              refine jx_ar (pc' := 125) (st' := [.int (i32 (7)), .ref 66]) rfl rfl rfl rfl ?_
                              refine jx_ld (pc' := 126) (l' := L828) (st' := [.int (i32 (r694)), .int (i32 (7)), .ref 66]) rfl (jl_iloadn gL828_1) ?_
                              refine jx_ar (pc' := 127) (st' := [.int (i32 (0)), .int (i32 (r694)), .int (i32 (7)), .ref 66]) rfl rfl rfl rfl ?_
                              refine jx_ar (pc' := 128) (st' := [.int (i32 (0)), .int (i32 (0)), .int (i32 (r694)), .int (i32 (7)), .ref 66]) rfl rfl rfl rfl ?_
                              refine jx_ar (pc' := 129) (st' := [.int (i32 (0)), .int (i32 (0)), .int (i32 (0)), .int (i32 (r694)), .int (i32 (7)), .ref 66]) rfl rfl rfl rfl ?_
                              refine jx_vr (pc' := 132) (as := [.int (i32 (7)), .int (i32 (r694)), .int (i32 (0)), .int (i32 (0)), .int (i32 (0))]) (st := []) rfl rfl rfl rfl ⟨rfl, rfl, Nat.le_of_ble_eq_true rfl⟩ rfl rfl (c_node_o (dd := d) (hd := by omega) (hW := hW861) (kind := 7) (a := r694) (b := 0) (c := 0) (e := 0) (nd := nd2_698) (e_nd := show (uG G836 15 ((op2_697 - 1))) 31 = nd2_698 from ((hF842.1 31 rfl).trans (e708))) (ec := ec2_700) (e_ec := show ecn A837 ((uG G836 15 ((op2_697 - 1))) 31) = ec2_700 from ec863)  (h_kind := ⟨(by decide), (by decide)⟩) (h_a := ⟨(Int.le_trans (by decide : (-2147483648 : Int) ≤ -2147483648) b704.1), (Int.le_trans b704.2 (by decide : (2147483647 : Int) ≤ 2147483647))⟩) (h_b := ⟨(by decide), (by decide)⟩) (h_c := ⟨(by decide), (by decide)⟩) (h_e := ⟨(by decide), (by decide)⟩)  (p_0 := by omega) (p_1 := by omega) (p_2 := by omega)) (fun o V' hq => ?_)
                              obtain ⟨G864, A865, nd2_866, ec2_867, rfl, rfl, hW868, hF869, hQ870, e871, e872, p873, p874, p875, -⟩ := hq
                              have hF877 := Fr_tr hF862 hF869 (Fr_sub (by decide)) (Fr_sub (by decide))
                              have hP878 := Pf_tr hP850 hQ870 (by omega)
                              have sf879 : wE A865 Vs sb (2 * k + 2) (r694) (nd) (nd2_698) := wE_ag (by omega) (Sg_fr hF869 (by decide)) (Ag_pf hQ870 (by omega)) sf851
                              have bnd2_866 : (0 : Int) ≤ nd2_866 ∧ nd2_866 ≤ 6999 := e871 ▸ hW868.1 31
                              refine .inr ⟨_, rfl, ?_⟩
                              refine jx_rt (v := some (.int (i32 (nd2_698)))) rfl rfl rfl rfl rfl rfl ?_
                              have z880 := tz_f (tk2_839)
                              exact ⟨_, _, _, at2_838, fk2_840, (op2_697 - 1), nd2_866, tk2_839, ec2_867, rfl, rfl, hW868, hF877, hP878, by omega, ((hF869.1 10 rfl).trans (e843)), ((hF869.1 16 rfl).trans (e845)), (hF869.1 15 rfl), (e871), ((hF869.1 11 rfl).trans (e844)), e872, by omega, by omega, by omega, by omega, by omega, by omega, by first | exact Or.inr (Or.inl (⟨by omega, by omega, by omega⟩))⟩
                            · have _q : True := trivial
                              refine jx_ld (pc' := 113) (l' := L828) (st' := [.ref 66]) rfl (jl_aloadn gL828_0) ?_
                              refine jx_ar (pc' := 114) (st' := [.ref 66, .ref 66]) rfl rfl rfl rfl ?_
                              refine jr_get (pc' := 117) (i := 15) (v := .int (i32 (op2_697))) rfl rfl (by decide) (rFv_eq (by decide) (show G836 15 = op2_697 from ((hF842.1 15 rfl).trans (e707)))) rfl ?_
                              refine jx_ar (pc' := 118) (st' := [.int (i32 (1)), .int (i32 (op2_697)), .ref 66]) rfl rfl rfl rfl ?_
                              refine jx_sub (pc' := 119) rfl rfl ?_
                              refine jr_put (pc' := 122) (i := 15) (z := (op2_697 - 1)) rfl rfl (by decide) rfl rfl rfl rfl rfl rfl ?_
                              have hW881 : Wk (uG G836 15 ((op2_697 - 1))) A837 := Wk_g hW841 (show (-2147483648 : Int) ≤ (op2_697 - 1) by omega) (show (op2_697 - 1) ≤ (2147483647 : Int) by omega)
                              have hF882 := Fr_g (z := (op2_697 - 1)) (i := 15) hF849 (by decide)
                              have ec883 : ecn A837 ((uG G836 15 ((op2_697 - 1))) 31) = ec2_700 := ec852
                              refine jx_ld (pc' := 123) (l' := L828) (st' := [.ref 66]) rfl (jl_aloadn gL828_0) ?_
                              refine jx_ar (pc' := 125) (st' := [.int (i32 (7)), .ref 66]) rfl rfl rfl rfl ?_
                              refine jx_ld (pc' := 126) (l' := L828) (st' := [.int (i32 (r694)), .int (i32 (7)), .ref 66]) rfl (jl_iloadn gL828_1) ?_
                              refine jx_ar (pc' := 127) (st' := [.int (i32 (0)), .int (i32 (r694)), .int (i32 (7)), .ref 66]) rfl rfl rfl rfl ?_
                              refine jx_ar (pc' := 128) (st' := [.int (i32 (0)), .int (i32 (0)), .int (i32 (r694)), .int (i32 (7)), .ref 66]) rfl rfl rfl rfl ?_
                              refine jx_ar (pc' := 129) (st' := [.int (i32 (0)), .int (i32 (0)), .int (i32 (0)), .int (i32 (r694)), .int (i32 (7)), .ref 66]) rfl rfl rfl rfl ?_
                              refine jx_vr (pc' := 132) (as := [.int (i32 (7)), .int (i32 (r694)), .int (i32 (0)), .int (i32 (0)), .int (i32 (0))]) (st := []) rfl rfl rfl rfl ⟨rfl, rfl, Nat.le_of_ble_eq_true rfl⟩ rfl rfl (c_node_o (dd := d) (hd := by omega) (hW := hW881) (kind := 7) (a := r694) (b := 0) (c := 0) (e := 0) (nd := nd2_698) (e_nd := show (uG G836 15 ((op2_697 - 1))) 31 = nd2_698 from ((hF842.1 31 rfl).trans (e708))) (ec := ec2_700) (e_ec := show ecn A837 ((uG G836 15 ((op2_697 - 1))) 31) = ec2_700 from ec883)  (h_kind := ⟨(by decide), (by decide)⟩) (h_a := ⟨(Int.le_trans (by decide : (-2147483648 : Int) ≤ -2147483648) b704.1), (Int.le_trans b704.2 (by decide : (2147483647 : Int) ≤ 2147483647))⟩) (h_b := ⟨(by decide), (by decide)⟩) (h_c := ⟨(by decide), (by decide)⟩) (h_e := ⟨(by decide), (by decide)⟩)  (p_0 := by omega) (p_1 := by omega) (p_2 := by omega)) (fun o V' hq => ?_)
                              obtain ⟨G884, A885, nd2_886, ec2_887, rfl, rfl, hW888, hF889, hQ890, e891, e892, p893, p894, p895, -⟩ := hq
                              have hF897 := Fr_tr hF882 hF889 (Fr_sub (by decide)) (Fr_sub (by decide))
                              have hP898 := Pf_tr hP850 hQ890 (by omega)
                              have sf899 : wE A885 Vs sb (2 * k + 2) (r694) (nd) (nd2_698) := wE_ag (by omega) (Sg_fr hF889 (by decide)) (Ag_pf hQ890 (by omega)) sf851
                              have bnd2_886 : (0 : Int) ≤ nd2_886 ∧ nd2_886 ≤ 6999 := e891 ▸ hW888.1 31
                              refine .inr ⟨_, rfl, ?_⟩
                              refine jx_rt (v := some (.int (i32 (nd2_698)))) rfl rfl rfl rfl rfl rfl ?_
                              have z900 := tz_f (tk2_839)
                              exact ⟨_, _, _, at2_838, fk2_840, (op2_697 - 1), nd2_886, tk2_839, ec2_887, rfl, rfl, hW888, hF897, hP898, by omega, ((hF889.1 10 rfl).trans (e843)), ((hF889.1 16 rfl).trans (e845)), (hF889.1 15 rfl), (e891), ((hF889.1 11 rfl).trans (e844)), e892, by omega, by omega, by omega, by omega, by omega, by omega, by first | exact Or.inr (Or.inr ((⟨by omega, by omega, by omega, (wE_one p895 (by omega) (by omega) (by omega) (wE_mono (by omega) (by omega) (by omega) sf899)), by omega⟩)))⟩
                          · have _q : True := trivial
                            refine jx_vr (pc' := 112) (as := [.int (i32 (0))]) (st := []) rfl rfl rfl rfl ⟨rfl, rfl, Nat.le_of_ble_eq_true rfl⟩ rfl rfl (c_need (dd := d) (hd := by omega) (hW := hW701) (g := 0) (ln := ln) (e_ln := show G692 9 = ln from ((hF702.1 9 rfl).trans ((hF538.1 9 rfl).trans ((hF360.1 9 rfl).trans (e_ln))))) (le := le) (e_le := show A693 4 (ln).toNat = le from (congrFun ((hF702.2 4 rfl).trans ((hF538.2 4 rfl).trans (hF360.2 4 rfl))) _).trans (e_le)) (at0 := at2_695) (e_at0 := show G692 10 = at2_695 from (e705)) (fk := fk2_696) (e_fk := show G692 16 = fk2_696 from (e706)) (tk0 := tk2_699) (e_tk0 := show G692 11 = tk2_699 from (e709))  (h_g := ⟨(by decide), (by decide)⟩)  (p_0 := by omega)) (fun o V' hq => ?_)
                            obtain ⟨G901, A902, at2_903, tk2_904, fk2_905, rfl, rfl, hW906, hF907, e908, e909, e910, p911, p912, q913⟩ := hq
                            have hF914 := Fr_tr hF718 hF907 (Fr_sub (by decide)) (Fr_sub (by decide))
                            have hP915 := Pf_f hP719 hF907 (by decide)
                            have sf916 : wE A902 Vs sb (2 * k + 2) (r694) (nd) (nd2_698) := wE_ag (by omega) (Sg_fr hF907 (by decide)) (Ag_fr hF907 (by decide)) a732
                            have ec917 : ecn A902 (G901 31) = ec2_700 := (ecn_f (hF907.2 15 rfl) (hF907.1 31 rfl)).trans e710
                            have bat2_903 : (0 : Int) ≤ at2_903 ∧ at2_903 ≤ 3002 := e908 ▸ hW906.1 10
                            have ztk2_904 := tz_b tk2_904
                            have btk2_904 : (0 : Int) ≤ tk2_904 ∧ tk2_904 ≤ 5 := e909 ▸ hW906.1 11
                            have bfk2_905 : (0 : Int) ≤ fk2_905 ∧ fk2_905 ≤ 6 := e910 ▸ hW906.1 16
                            refine .inl ⟨rfl, ?_⟩
                            rcases q913 with ⟨a918, a919, a920, a921⟩ | ⟨a922, a923, a924, a925⟩
                            · have _q : True := trivial
                              refine jx_ld (pc' := 113) (l' := L828) (st' := [.ref 66]) rfl (jl_aloadn gL828_0) ?_
                              refine jx_ar (pc' := 114) (st' := [.ref 66, .ref 66]) rfl rfl rfl rfl ?_
                              refine jr_get (pc' := 117) (i := 15) (v := .int (i32 (op2_697))) rfl rfl (by decide) (rFv_eq (by decide) (show G901 15 = op2_697 from ((hF907.1 15 rfl).trans (e707)))) rfl ?_
                              refine jx_ar (pc' := 118) (st' := [.int (i32 (1)), .int (i32 (op2_697)), .ref 66]) rfl rfl rfl rfl ?_
                              refine jx_sub (pc' := 119) rfl rfl ?_
                              refine jr_put (pc' := 122) (i := 15) (z := (op2_697 - 1)) rfl rfl (by decide) rfl rfl rfl rfl rfl rfl ?_
                              have hW926 : Wk (uG G901 15 ((op2_697 - 1))) A902 := Wk_g hW906 (show (-2147483648 : Int) ≤ (op2_697 - 1) by omega) (show (op2_697 - 1) ≤ (2147483647 : Int) by omega)
                              have hF927 := Fr_g (z := (op2_697 - 1)) (i := 15) hF914 (by decide)
                              have ec928 : ecn A902 ((uG G901 15 ((op2_697 - 1))) 31) = ec2_700 := ec917
                              refine jx_ld (pc' := 123) (l' := L828) (st' := [.ref 66]) rfl (jl_aloadn gL828_0) ?_
                              refine jx_ar (pc' := 125) (st' := [.int (i32 (7)), .ref 66]) rfl rfl rfl rfl ?_
                              refine jx_ld (pc' := 126) (l' := L828) (st' := [.int (i32 (r694)), .int (i32 (7)), .ref 66]) rfl (jl_iloadn gL828_1) ?_
                              refine jx_ar (pc' := 127) (st' := [.int (i32 (0)), .int (i32 (r694)), .int (i32 (7)), .ref 66]) rfl rfl rfl rfl ?_
                              refine jx_ar (pc' := 128) (st' := [.int (i32 (0)), .int (i32 (0)), .int (i32 (r694)), .int (i32 (7)), .ref 66]) rfl rfl rfl rfl ?_
                              refine jx_ar (pc' := 129) (st' := [.int (i32 (0)), .int (i32 (0)), .int (i32 (0)), .int (i32 (r694)), .int (i32 (7)), .ref 66]) rfl rfl rfl rfl ?_
                              refine jx_vr (pc' := 132) (as := [.int (i32 (7)), .int (i32 (r694)), .int (i32 (0)), .int (i32 (0)), .int (i32 (0))]) (st := []) rfl rfl rfl rfl ⟨rfl, rfl, Nat.le_of_ble_eq_true rfl⟩ rfl rfl (c_node_o (dd := d) (hd := by omega) (hW := hW926) (kind := 7) (a := r694) (b := 0) (c := 0) (e := 0) (nd := nd2_698) (e_nd := show (uG G901 15 ((op2_697 - 1))) 31 = nd2_698 from ((hF907.1 31 rfl).trans (e708))) (ec := ec2_700) (e_ec := show ecn A902 ((uG G901 15 ((op2_697 - 1))) 31) = ec2_700 from ec928)  (h_kind := ⟨(by decide), (by decide)⟩) (h_a := ⟨(Int.le_trans (by decide : (-2147483648 : Int) ≤ -2147483648) b704.1), (Int.le_trans b704.2 (by decide : (2147483647 : Int) ≤ 2147483647))⟩) (h_b := ⟨(by decide), (by decide)⟩) (h_c := ⟨(by decide), (by decide)⟩) (h_e := ⟨(by decide), (by decide)⟩)  (p_0 := by omega) (p_1 := by omega) (p_2 := by omega)) (fun o V' hq => ?_)
                              obtain ⟨G929, A930, nd2_931, ec2_932, rfl, rfl, hW933, hF934, hQ935, e936, e937, p938, p939, p940, -⟩ := hq
                              have hF942 := Fr_tr hF927 hF934 (Fr_sub (by decide)) (Fr_sub (by decide))
                              have hP943 := Pf_tr hP915 hQ935 (by omega)
                              have sf944 : wE A930 Vs sb (2 * k + 2) (r694) (nd) (nd2_698) := wE_ag (by omega) (Sg_fr hF934 (by decide)) (Ag_pf hQ935 (by omega)) sf916
                              have bnd2_931 : (0 : Int) ≤ nd2_931 ∧ nd2_931 ≤ 6999 := e936 ▸ hW933.1 31
                              refine .inr ⟨_, rfl, ?_⟩
                              refine jx_rt (v := some (.int (i32 (nd2_698)))) rfl rfl rfl rfl rfl rfl ?_
                              have z945 := tz_f (tk2_904)
                              exact ⟨_, _, _, at2_903, fk2_905, (op2_697 - 1), nd2_931, tk2_904, ec2_932, rfl, rfl, hW933, hF942, hP943, by omega, ((hF934.1 10 rfl).trans (e908)), ((hF934.1 16 rfl).trans (e910)), (hF934.1 15 rfl), (e936), ((hF934.1 11 rfl).trans (e909)), e937, by omega, by omega, by omega, by omega, by omega, by omega, by first | exact Or.inr (Or.inl (⟨by omega, by omega, by omega⟩))⟩
                            · have _q : True := trivial
                              exfalso
                              omega
                · have _q : True := trivial
                  refine jx_if_eq (pc' := 88) (tg := 133) rfl rfl rfl (by decide) (by decide) (fun h946 => ?_) (fun h946 => ?_)
                  · have _q := h946
                    refine jx_ld (pc' := 134) (l' := [(0, .ref 66)]) (st' := [.ref 66]) rfl (jl_aloadn rfl) ?_
                    have z947 := tz_f (tk0)
                    refine jr_get (pc' := 137) (i := 11) (v := .int (i32 (tk0))) rfl rfl (by decide) (rFv_eq (by decide) (show G 11 = tk0 from (e_tk0))) rfl ?_
                    refine jx_ar (pc' := 138) (st' := [.int (i32 (1)), .int (i32 (tk0))]) rfl rfl rfl rfl ?_
                    refine jx_icmp_eq (pc' := 141) (tg := 152) rfl rfl rfl (Int.le_trans (by decide : (-2147483648 : Int) ≤ 0) b_tk0.1) (Int.le_trans b_tk0.2 (by decide : (5 : Int) ≤ 2147483647)) (by decide) (by decide) (fun h948 => ?_) (fun h948 => ?_)
                    · have _q := h948
                      refine jx_ld (pc' := 153) (l' := [(0, .ref 66)]) (st' := [.ref 66]) rfl (jl_aloadn rfl) ?_
                      have b949 : (-3000 : Int) ≤ G 12 ∧ G 12 ≤ 3002 := hW.1 12
                      refine jr_get (pc' := 156) (i := 12) (v := .int (i32 (G 12))) rfl rfl (by decide) rfl rfl ?_
                      refine jx_ld (pc' := 157) (l' := jSto1 [(0, .ref 66)] 1 (.int (i32 (G 12)))) (st' := []) rfl rfl ?_
                      obtain ⟨L950, eL950⟩ : ∃ q, q = jSto1 [(0, .ref 66)] 1 (.int (i32 (G 12))) := ⟨_, rfl⟩
                      rw [← eL950]
                      have gL950_0 : jGet L950 0 = some (.ref 66) := eL950 ▸ jg_ne (by decide) (rfl : jGet [(0, .ref 66)] 0 = some (.ref 66)) rfl
                      have gL950_1 : jGet L950 1 = some (.int (i32 (G 12))) := eL950 ▸ jg_eq
                      refine jx_ld (pc' := 158) (l' := L950) (st' := [.ref 66]) rfl (jl_aloadn gL950_0) ?_
                      refine jx_vr (pc' := 161) (as := []) (st := []) rfl rfl rfl rfl ⟨rfl, rfl, Nat.le_of_ble_eq_true rfl⟩ rfl rfl (c_lookUp (dd := d) (hd := by omega) (hW := hW)  (fk := fk) (e_fk := show G 16 = fk from (e_fk)) (i_SV := (SV_ext (rfl) (rfl) i_SV))   ) (fun o V' hq => ?_)
                      obtain ⟨G951, A952, r953, fk2_954, rfl, rfl, hW955, hF956, b957, e958, q959⟩ := hq
                      have hF960 := Fr_tr hF0 hF956 (Fr_sub (by decide)) (Fr_sub (by decide))
                      have hP961 := Pf_f hP0 hF956 (by decide)
                      have ec962 : ecn A952 (G951 31) = ec := (ecn_f (hF956.2 15 rfl) (hF956.1 31 rfl)).trans e_ec
                      have bfk2_954 : (0 : Int) ≤ fk2_954 ∧ fk2_954 ≤ 6 := e958 ▸ hW955.1 16
                      refine .inr ⟨_, rfl, ?_⟩
                      rcases q959 with ⟨a963, a964⟩ | ⟨a965, a966, a967, a968⟩
                      · have _q : True := trivial
                        refine jx_ld (pc' := 162) (l' := jSto1 L950 2 (.int (i32 (r953)))) (st' := []) rfl rfl ?_
                        obtain ⟨L969, eL969⟩ : ∃ q, q = jSto1 L950 2 (.int (i32 (r953))) := ⟨_, rfl⟩
                        rw [← eL969]
                        have gL969_0 : jGet L969 0 = some (.ref 66) := eL969 ▸ jg_ne (by decide) gL950_0 rfl
                        have gL969_1 : jGet L969 1 = some (.int (i32 (G 12))) := eL969 ▸ jg_ne (by decide) gL950_1 rfl
                        have gL969_2 : jGet L969 2 = some (.int (i32 (r953))) := eL969 ▸ jg_eq
                        refine jx_ld (pc' := 163) (l' := L969) (st' := [.ref 66]) rfl (jl_aloadn gL969_0) ?_
                        refine jx_vr (pc' := 166) (as := []) (st := []) rfl rfl rfl rfl ⟨rfl, rfl, Nat.le_of_ble_eq_true rfl⟩ rfl rfl (c_bad (dd := d) (hd := by omega) (hW := hW955)  (fk := fk2_954) (e_fk := show G951 16 = fk2_954 from (e958))    ) (fun o V' hq => ?_)
                        obtain ⟨r970, rfl, rfl, b971, q972⟩ := hq
                        refine .inr ⟨_, rfl, ?_⟩
                        rcases q972 with ⟨rfl, a973⟩ | ⟨rfl, a974⟩
                        · have _q : True := trivial
                          refine jx_if_eq (pc' := 169) (tg := 171) rfl rfl rfl (by decide) (by decide) (fun h975 => ?_) (fun h975 => ?_)
                          · have _q := h975
                            exact absurd h975 (by omega)
                          · have _q := h975
                            refine jx_ar (pc' := 170) (st' := [.int (i32 (0))]) rfl rfl rfl rfl ?_
                            refine jx_rt (v := some (.int (i32 (0)))) rfl rfl rfl rfl rfl rfl ?_
                            have z976 := tz_f (tk0)
                            exact ⟨_, _, _, at0, fk2_954, op0, nd, tk0, ec, rfl, rfl, hW955, hF960, hP961, by omega, ((hF956.1 10 rfl).trans (e_at0)), (e958), ((hF956.1 15 rfl).trans (e_op0)), ((hF956.1 31 rfl).trans (e_nd)), ((hF956.1 11 rfl).trans (e_tk0)), ec962, by omega, by omega, by omega, by omega, by omega, by omega, by first | exact Or.inr (Or.inl (⟨by omega, by omega, by omega⟩))⟩
                        · have _q : True := trivial
                          exfalso
                          omega
                      · have _q : True := trivial
                        refine jx_ld (pc' := 162) (l' := jSto1 L950 2 (.int (i32 (r953)))) (st' := []) rfl rfl ?_
                        obtain ⟨L977, eL977⟩ : ∃ q, q = jSto1 L950 2 (.int (i32 (r953))) := ⟨_, rfl⟩
                        rw [← eL977]
                        have gL977_0 : jGet L977 0 = some (.ref 66) := eL977 ▸ jg_ne (by decide) gL950_0 rfl
                        have gL977_1 : jGet L977 1 = some (.int (i32 (G 12))) := eL977 ▸ jg_ne (by decide) gL950_1 rfl
                        have gL977_2 : jGet L977 2 = some (.int (i32 (r953))) := eL977 ▸ jg_eq
                        refine jx_ld (pc' := 163) (l' := L977) (st' := [.ref 66]) rfl (jl_aloadn gL977_0) ?_
                        refine jx_vr (pc' := 166) (as := []) (st := []) rfl rfl rfl rfl ⟨rfl, rfl, Nat.le_of_ble_eq_true rfl⟩ rfl rfl (c_bad (dd := d) (hd := by omega) (hW := hW955)  (fk := fk2_954) (e_fk := show G951 16 = fk2_954 from (e958))    ) (fun o V' hq => ?_)
                        obtain ⟨r978, rfl, rfl, b979, q980⟩ := hq
                        refine .inr ⟨_, rfl, ?_⟩
                        rcases q980 with ⟨rfl, a981⟩ | ⟨rfl, a982⟩
                        · have _q : True := trivial
                          exfalso
                          omega
                        · have _q : True := trivial
                          refine jx_if_eq (pc' := 169) (tg := 171) rfl rfl rfl (by decide) (by decide) (fun h983 => ?_) (fun h983 => ?_)
                          · have _q := h983
                            refine jx_ld (pc' := 172) (l' := L977) (st' := [.ref 66]) rfl (jl_aloadn gL977_0) ?_
                            refine jx_vr (pc' := 175) (as := []) (st := []) rfl rfl rfl rfl ⟨rfl, rfl, Nat.le_of_ble_eq_true rfl⟩ rfl rfl (c_next (dd := d) (hd := by omega) (hW := hW955)  (ln := ln) (e_ln := show G951 9 = ln from ((hF956.1 9 rfl).trans (e_ln))) (le := le) (e_le := show A952 4 (ln).toNat = le from (congrFun (hF956.2 4 rfl) _).trans (e_le)) (at0 := at0) (e_at0 := show G951 10 = at0 from ((hF956.1 10 rfl).trans (e_at0)))    (p_0 := by omega)) (fun o V' hq => ?_)
                            obtain ⟨G984, A985, at2_986, tk2_987, rfl, rfl, hW988, hF989, e990, e991, p992, p993, p994, -⟩ := hq
                            have hF996 := Fr_tr hF960 hF989 (Fr_sub (by decide)) (Fr_sub (by decide))
                            have hP997 := Pf_f hP961 hF989 (by decide)
                            have ec998 : ecn A985 (G984 31) = ec := (ecn_f (hF989.2 15 rfl) (hF989.1 31 rfl)).trans ec962
                            have bat2_986 : (0 : Int) ≤ at2_986 ∧ at2_986 ≤ 3002 := e990 ▸ hW988.1 10
                            have ztk2_987 := tz_b tk2_987
                            have btk2_987 : (0 : Int) ≤ tk2_987 ∧ tk2_987 ≤ 5 := e991 ▸ hW988.1 11
                            refine .inl ⟨rfl, ?_⟩
                            refine jx_ld (pc' := 176) (l' := L977) (st' := [.ref 66]) rfl (jl_aloadn gL977_0) ?_
                            refine jx_ld (pc' := 177) (l' := L977) (st' := [.int (i32 (r953)), .ref 66]) rfl (jl_iloadn gL977_2) ?_
                            refine jx_ld (pc' := 178) (l' := L977) (st' := [.int (i32 (G 12)), .int (i32 (r953)), .ref 66]) rfl (jl_iloadn gL977_1) ?_
                            refine jx_vr (pc' := 181) (as := [.int (i32 (r953)), .int (i32 (G 12))]) (st := []) rfl rfl rfl rfl ⟨rfl, rfl, Nat.le_of_ble_eq_true rfl⟩ rfl rfl (c_readValue_w (dd := d) (hE := hE) (hd := by omega) (hW := hW988) (s := r953) (place := G 12) (ln := ln) (e_ln := show G984 9 = ln from ((hF989.1 9 rfl).trans ((hF956.1 9 rfl).trans (e_ln)))) (le := le) (e_le := show A985 4 (ln).toNat = le from (congrFun ((hF989.2 4 rfl).trans (hF956.2 4 rfl)) _).trans (e_le)) (at0 := at2_986) (e_at0 := show G984 10 = at2_986 from (e990)) (fk := fk2_954) (e_fk := show G984 16 = fk2_954 from ((hF989.1 16 rfl).trans (e958))) (op0 := op0) (e_op0 := show G984 15 = op0 from ((hF989.1 15 rfl).trans ((hF956.1 15 rfl).trans (e_op0)))) (nd := nd) (e_nd := show G984 31 = nd from ((hF989.1 31 rfl).trans ((hF956.1 31 rfl).trans (e_nd)))) (tk0 := tk2_987) (e_tk0 := show G984 11 = tk2_987 from (e991)) (ec := ec) (e_ec := show ecn A985 (G984 31) = ec from ec998) (i_SV := (SV_ext (((hF989.1 29 rfl).trans (hF956.1 29 rfl))) (((hF989.2 14 rfl).trans (hF956.2 14 rfl))) i_SV)) (h_s := ⟨(Int.le_trans (by decide : (-2147483648 : Int) ≤ -2147483648) b957.1), (Int.le_trans b957.2 (by decide : (2147483647 : Int) ≤ 2147483647))⟩) (h_place := ⟨(Int.le_trans (by decide : (-2147483648 : Int) ≤ -3000) b949.1), (Int.le_trans b949.2 (by decide : (3002 : Int) ≤ 2147483647))⟩)  (p_0 := by omega) (p_1 := by omega) (p_2 := by omega) (p_3 := by omega) (p_4 := by omega) (p_5 := by omega) (p_6 := by omega) (p_7 := by omega) (p_8 := by omega) (p_9 := by omega) (p_10 := a968)) (fun o V' hq => ?_)
                            obtain ⟨G999, A1000, r1001, at2_1002, fk2_1003, op2_1004, nd2_1005, tk2_1006, ec2_1007, rfl, rfl, hW1008, hF1009, hQ1010, b1011, e1012, e1013, e1014, e1015, e1016, e1017, p1018, p1019, p1020, p1021, p1022, p1023, q1024⟩ := hq
                            have hF1025 := Fr_tr hF996 hF1009 (Fr_sub (by decide)) (Fr_sub (by decide))
                            have hP1026 := Pf_tr hP997 hQ1010 (by omega)
                            have bat2_1002 : (0 : Int) ≤ at2_1002 ∧ at2_1002 ≤ 3002 := e1012 ▸ hW1008.1 10
                            have bfk2_1003 : (0 : Int) ≤ fk2_1003 ∧ fk2_1003 ≤ 6 := e1013 ▸ hW1008.1 16
                            have bop2_1004 : (-2147483648 : Int) ≤ op2_1004 ∧ op2_1004 ≤ 2147483647 := e1014 ▸ hW1008.1 15
                            have bnd2_1005 : (0 : Int) ≤ nd2_1005 ∧ nd2_1005 ≤ 6999 := e1015 ▸ hW1008.1 31
                            have ztk2_1006 := tz_b tk2_1006
                            have btk2_1006 : (0 : Int) ≤ tk2_1006 ∧ tk2_1006 ≤ 5 := e1016 ▸ hW1008.1 11
                            refine .inr ⟨_, rfl, ?_⟩
                            rcases q1024 with ⟨a1027, a1028, a1029⟩ | ⟨a1030, a1031, a1032, a1033, a1034⟩
                            · have _q : True := trivial
                              refine jx_rt (v := some (.int (i32 (r1001)))) rfl rfl rfl rfl rfl rfl ?_
                              have z1035 := tz_f (tk2_1006)
                              exact ⟨_, _, _, at2_1002, fk2_1003, op2_1004, nd2_1005, tk2_1006, ec2_1007, rfl, rfl, hW1008, hF1025, hP1026, by omega, (e1012), (e1013), (e1014), (e1015), (e1016), e1017, by omega, by omega, by omega, by omega, by omega, by omega, by first | exact Or.inr (Or.inl (⟨by omega, by omega, by omega⟩))⟩
                            · have _q : True := trivial
                              refine jx_rt (v := some (.int (i32 (r1001)))) rfl rfl rfl rfl rfl rfl ?_
                              have z1036 := tz_f (tk2_1006)
                              exact ⟨_, _, _, at2_1002, fk2_1003, op2_1004, nd2_1005, tk2_1006, ec2_1007, rfl, rfl, hW1008, hF1025, hP1026, by omega, (e1012), (e1013), (e1014), (e1015), (e1016), e1017, by omega, by omega, by omega, by omega, by omega, by omega, by first | exact Or.inr (Or.inr ((⟨by omega, by omega, by omega, a1033, by omega⟩)))⟩
                          · have _q := h983
                            exact absurd h983 (by omega)
                    · have _q := h948
                      refine jx_ld (pc' := 142) (l' := [(0, .ref 66)]) (st' := [.ref 66]) rfl (jl_aloadn rfl) ?_
                      refine jx_ar (pc' := 143) (st' := [.int (i32 (1)), .ref 66]) rfl rfl rfl rfl ?_
                      refine jx_ld (pc' := 144) (l' := [(0, .ref 66)]) (st' := [.ref 66, .int (i32 (1)), .ref 66]) rfl (jl_aloadn rfl) ?_
                      have b1037 : (-3000 : Int) ≤ G 12 ∧ G 12 ≤ 3002 := hW.1 12
                      refine jr_get (pc' := 147) (i := 12) (v := .int (i32 (G 12))) rfl rfl (by decide) rfl rfl ?_
                      refine jx_vr (pc' := 150) (as := [.int (i32 (1)), .int (i32 (G 12))]) (st := []) rfl rfl rfl rfl ⟨rfl, rfl, Nat.le_of_ble_eq_true rfl⟩ rfl rfl (c_fail (dd := d) (hd := by omega) (hW := hW) (kind := 1) (place := G 12) (fk := fk) (e_fk := show G 16 = fk from (e_fk))  (h_kind := ⟨(by decide), (by decide)⟩) (h_place := ⟨(Int.le_trans (by decide : (-2147483648 : Int) ≤ -3000) b1037.1), (Int.le_trans b1037.2 (by decide : (3002 : Int) ≤ 2147483647))⟩)  (p_0 := by omega) (p_1 := by omega)) (fun o V' hq => ?_)
                      obtain ⟨G1038, A1039, fk2_1040, rfl, rfl, hW1041, hF1042, e1043, p1044, -⟩ := hq
                      have hF1046 := Fr_tr hF0 hF1042 (Fr_sub (by decide)) (Fr_sub (by decide))
                      have hP1047 := Pf_f hP0 hF1042 (by decide)
                      have ec1048 : ecn A1039 (G1038 31) = ec := (ecn_f (hF1042.2 15 rfl) (hF1042.1 31 rfl)).trans e_ec
                      have bfk2_1040 : (0 : Int) ≤ fk2_1040 ∧ fk2_1040 ≤ 6 := e1043 ▸ hW1041.1 16
                      refine .inl ⟨rfl, ?_⟩
                      refine jx_ar (pc' := 151) (st' := [.int (i32 (0))]) rfl rfl rfl rfl ?_
                      refine jx_rt (v := some (.int (i32 (0)))) rfl rfl rfl rfl rfl rfl ?_
                      have z1049 := tz_f (tk0)
                      exact ⟨_, _, _, at0, fk2_1040, op0, nd, tk0, ec, rfl, rfl, hW1041, hF1046, hP1047, by omega, ((hF1042.1 10 rfl).trans (e_at0)), (e1043), ((hF1042.1 15 rfl).trans (e_op0)), ((hF1042.1 31 rfl).trans (e_nd)), ((hF1042.1 11 rfl).trans (e_tk0)), ec1048, by omega, by omega, by omega, by omega, by omega, by omega, by first | exact Or.inr (Or.inl (⟨by omega, by omega, by omega⟩))⟩
                  · have _q := h946
                    exact absurd h946 (by omega)
              · have _q := h347
                exact absurd h347 (by omega)
    · have _q := h8
      exact absurd h8 (by omega)
set_option maxRecDepth 20000 in
set_option maxHeartbeats 4000000 in
theorem c_readRest_w {X : jX} {k : Nat} (hE : REw X k) {dd : Nat} {Vs : Nat → Prop} {sb : Int} {c0 c1 : jC} {G : Nat → Int} {A : Nat → Nat → Int} {T : jH} {x : Int} {lo : Int} {ln le at0 fk op0 nd tk0 ec : Int} (hd : 6 * k + 15 ≤ dd) (hW : Wk G A) (e_ln : G 9 = ln) (e_le : A 4 (ln).toNat = le) (e_at0 : G 10 = at0) (e_fk : G 16 = fk) (e_op0 : G 15 = op0) (e_nd : G 31 = nd) (e_tk0 : G 11 = tk0) (e_ec : ecn A (G 31) = ec) (i_SV : SV Vs sb G A) (h_x : (-2147483648 : Int) ≤ x ∧ x ≤ 2147483647) (p_0 : 0 ≤ op0) (p_1 : op0 ≤ 9) (p_2 : op0 ≤ 8 ∨ 1 ≤ fk) (p_3 : 9 - op0 ≤ ((k + 1 : Nat) : Int) ∨ 1 ≤ fk) (p_4 : nd ≤ 2 * at0 - tz tk0 + 51) (p_5 : at0 ≤ le) (p_6 : nd ≤ 2 * at0 - tz tk0 + 50 ∨ 1 ≤ fk) (p_7 : 0 ≤ x ∧ x ≤ nd) (p_8 : 0 ≤ lo ∧ lo ≤ nd) (p_9 : fk = 0 → wE A Vs sb (2 * k + 3) (x) (lo) (nd)) : wk X dd 287 [.ref 66, .int (i32 x)] (rV c0 c1 G A T) (fun o V' => ∃ (G' : Nat → Int) (A' : Nat → Nat → Int) (r : Int) (at2 : Int) (fk2 : Int) (op2 : Int) (nd2 : Int) (tk2 : Int) (ec2 : Int), V' = rV c0 c1 G' A' T ∧ o = .inl (some (.int (i32 r))) ∧ Wk G' A' ∧ Fr [10, 11, 12, 13, 14, 15, 16, 17, 18, 31] [15, 16, 17, 18, 19, 20, 21, 22, 24, 28] G A G' A' ∧ Pf nd A A' ∧ ((-2147483648 : Int) ≤ r ∧ r ≤ 2147483647) ∧ G' 10 = at2 ∧ G' 16 = fk2 ∧ G' 15 = op2 ∧ G' 31 = nd2 ∧ G' 11 = tk2 ∧ ecn A' (G' 31) = ec2 ∧ (at0 ≤ at2) ∧ (at2 ≤ le) ∧ (nd ≤ nd2) ∧ (op2 = op0) ∧ (0 ≤ r) ∧ (r ≤ nd2) ∧ (((1 ≤ fk) ∧ (1 ≤ fk2) ∧ (nd2 = nd) ∧ (at2 = at0) ∧ (tk2 = tk0) ∧ (tz tk2 = tz tk0)) ∨ ((fk = 0) ∧ (1 ≤ fk2) ∧ (nd2 - nd ≤ (2 * at2 - tz tk2) - (2 * at0 - tz tk0) + 1)) ∨ ((fk = 0) ∧ (fk2 = 0) ∧ (nd2 - nd ≤ (2 * at2 - tz tk2) - (2 * at0 - tz tk0)) ∧ (wE A' Vs sb (2 * k + 4) (r) (lo) (nd2)) ∧ (nd2 - nd + 5 * (ec2 - ec) ≤ (2 * at2 - tz tk2) - (2 * at0 - tz tk0) + tz tk0 - tz tk2)))) := by
  obtain ⟨d, rfl⟩ : ∃ d, dd = d + 1 := ⟨dd - 1, by omega⟩
  refine wk_of (e := jm287) rfl (Nat.le_of_ble_eq_true rfl) ?_
  show wj X d jm287 (0, [(0, .ref 66), (1, .int (i32 (x)))], [], rV c0 c1 G A T) _
  have hF0 : Fr [10, 11, 12, 13, 14, 15, 16, 17, 18, 31] [15, 16, 17, 18, 19, 20, 21, 22, 24, 28] G A G A := Fr_rf
  have hP0 : Pf nd A A := Pf_rf
  have b_ln : (0 : Int) ≤ ln ∧ ln ≤ 3000 := e_ln ▸ hW.1 9
  have b_le : (0 : Int) ≤ le ∧ le ≤ 3000 := e_le ▸ hW.2 4 _
  have b_at0 : (0 : Int) ≤ at0 ∧ at0 ≤ 3002 := e_at0 ▸ hW.1 10
  have b_fk : (0 : Int) ≤ fk ∧ fk ≤ 6 := e_fk ▸ hW.1 16
  have b_op0 : (-2147483648 : Int) ≤ op0 ∧ op0 ≤ 2147483647 := e_op0 ▸ hW.1 15
  have b_nd : (0 : Int) ≤ nd ∧ nd ≤ 6999 := e_nd ▸ hW.1 31
  have z_tk0 := tz_f tk0
  have b_tk0 : (0 : Int) ≤ tk0 ∧ tk0 ≤ 5 := e_tk0 ▸ hW.1 11
  refine jx_ld (pc' := 1) (l' := [(0, .ref 66), (1, .int (i32 (x)))]) (st' := [.ref 66]) rfl (jl_aloadn rfl) ?_
  refine jx_vr (pc' := 4) (as := []) (st := []) rfl rfl rfl rfl ⟨rfl, rfl, Nat.le_of_ble_eq_true rfl⟩ rfl rfl (c_bad (dd := d) (hd := by omega) (hW := hW)  (fk := fk) (e_fk := show G 16 = fk from (e_fk))    ) (fun o V' hq => ?_)
  obtain ⟨r1, rfl, rfl, b2, q3⟩ := hq
  refine .inr ⟨_, rfl, ?_⟩
  rcases q3 with ⟨rfl, a4⟩ | ⟨rfl, a5⟩
  · have _q : True := trivial
    refine jx_if_eq (pc' := 7) (tg := 11) rfl rfl rfl (by decide) (by decide) (fun h6 => ?_) (fun h6 => ?_)
    · have _q := h6
      exact absurd h6 (by omega)
    · have _q := h6
      refine jx_ar (pc' := 8) (st' := [.int (i32 (0))]) rfl rfl rfl rfl ?_
      refine jx_go (tg := 15) rfl rfl ?_
      refine jx_ld (pc' := 16) (l' := jSto1 [(0, .ref 66), (1, .int (i32 (x)))] 2 (.int (i32 (0)))) (st' := []) rfl rfl ?_
      obtain ⟨L7, eL7⟩ : ∃ q, q = jSto1 [(0, .ref 66), (1, .int (i32 (x)))] 2 (.int (i32 (0))) := ⟨_, rfl⟩
      rw [← eL7]
      have gL7_0 : jGet L7 0 = some (.ref 66) := eL7 ▸ jg_ne (by decide) (rfl : jGet [(0, .ref 66), (1, .int (i32 (x)))] 0 = some (.ref 66)) rfl
      have gL7_1 : jGet L7 1 = some (.int (i32 (x))) := eL7 ▸ jg_ne (by decide) (rfl : jGet [(0, .ref 66), (1, .int (i32 (x)))] 1 = some (.int (i32 (x)))) rfl
      have gL7_2 : jGet L7 2 = some (.int (i32 (0))) := eL7 ▸ jg_eq
      refine jx_ld (pc' := 17) (l' := L7) (st' := [.int (i32 (0))]) rfl (jl_iloadn gL7_2) ?_
      refine jx_if_ne (pc' := 20) (tg := 22) rfl rfl rfl (by decide) (by decide) (fun h8 => ?_) (fun h8 => ?_)
      · have _q := h8
        exact absurd h8 (by omega)
      · have _q := h8
        refine jx_ld (pc' := 21) (l' := L7) (st' := [.int (i32 (x))]) rfl (jl_iloadn gL7_1) ?_
        refine jx_rt (v := some (.int (i32 (x)))) rfl rfl rfl rfl rfl rfl ?_
        have z9 := tz_f (tk0)
        exact ⟨_, _, _, at0, fk, op0, nd, tk0, ec, rfl, rfl, hW, hF0, hP0, by omega, (e_at0), (e_fk), (e_op0), (e_nd), (e_tk0), e_ec, by omega, by omega, by omega, by omega, by omega, by omega, by first | exact Or.inl (⟨by omega, by omega, by omega, by omega, by omega, by omega⟩)⟩
  · have _q : True := trivial
    refine jx_if_eq (pc' := 7) (tg := 11) rfl rfl rfl (by decide) (by decide) (fun h10 => ?_) (fun h10 => ?_)
    · have _q := h10
      refine jx_ld (pc' := 12) (l' := [(0, .ref 66), (1, .int (i32 (x)))]) (st' := [.ref 66]) rfl (jl_aloadn rfl) ?_
      have b11 : (-2147483648 : Int) ≤ G 13 ∧ G 13 ≤ 2147483647 := hW.1 13
      refine jx_vr (pc' := 15) (as := []) (st := []) rfl rfl rfl rfl ⟨rfl, rfl, Nat.le_of_ble_eq_true rfl⟩ rfl rfl (c_operationAt (dd := d) (hd := by omega) (hW := hW)  (tk := tk0) (e_tk := show G 11 = tk0 from (e_tk0)) (tn := G 13) (e_tn := show G 13 = G 13 from rfl)    ) (fun o V' hq => ?_)
      obtain ⟨r12, rfl, rfl, b13, q14⟩ := hq
      refine .inr ⟨_, rfl, ?_⟩
      rcases q14 with rfl | a15
      · have _q : True := trivial
        refine jx_ld (pc' := 16) (l' := jSto1 [(0, .ref 66), (1, .int (i32 (x)))] 2 (.int (i32 (0)))) (st' := []) rfl rfl ?_
        obtain ⟨L16, eL16⟩ : ∃ q, q = jSto1 [(0, .ref 66), (1, .int (i32 (x)))] 2 (.int (i32 (0))) := ⟨_, rfl⟩
        rw [← eL16]
        have gL16_0 : jGet L16 0 = some (.ref 66) := eL16 ▸ jg_ne (by decide) (rfl : jGet [(0, .ref 66), (1, .int (i32 (x)))] 0 = some (.ref 66)) rfl
        have gL16_1 : jGet L16 1 = some (.int (i32 (x))) := eL16 ▸ jg_ne (by decide) (rfl : jGet [(0, .ref 66), (1, .int (i32 (x)))] 1 = some (.int (i32 (x)))) rfl
        have gL16_2 : jGet L16 2 = some (.int (i32 (0))) := eL16 ▸ jg_eq
        refine jx_ld (pc' := 17) (l' := L16) (st' := [.int (i32 (0))]) rfl (jl_iloadn gL16_2) ?_
        refine jx_if_ne (pc' := 20) (tg := 22) rfl rfl rfl (by decide) (by decide) (fun h17 => ?_) (fun h17 => ?_)
        · have _q := h17
          exact absurd h17 (by omega)
        · have _q := h17
          refine jx_ld (pc' := 21) (l' := L16) (st' := [.int (i32 (x))]) rfl (jl_iloadn gL16_1) ?_
          refine jx_rt (v := some (.int (i32 (x)))) rfl rfl rfl rfl rfl rfl ?_
          have z18 := tz_f (tk0)
          exact ⟨_, _, _, at0, fk, op0, nd, tk0, ec, rfl, rfl, hW, hF0, hP0, by omega, (e_at0), (e_fk), (e_op0), (e_nd), (e_tk0), e_ec, by omega, by omega, by omega, by omega, by omega, by omega, by first | exact Or.inr (Or.inr ((⟨by omega, by omega, by omega, (wE_mono (by omega) (by omega) (by omega) (p_9 (by omega))), by omega⟩)))⟩
      · have _q : True := trivial
        refine jx_ld (pc' := 16) (l' := jSto1 [(0, .ref 66), (1, .int (i32 (x)))] 2 (.int (i32 (r12)))) (st' := []) rfl rfl ?_
        obtain ⟨L19, eL19⟩ : ∃ q, q = jSto1 [(0, .ref 66), (1, .int (i32 (x)))] 2 (.int (i32 (r12))) := ⟨_, rfl⟩
        rw [← eL19]
        have gL19_0 : jGet L19 0 = some (.ref 66) := eL19 ▸ jg_ne (by decide) (rfl : jGet [(0, .ref 66), (1, .int (i32 (x)))] 0 = some (.ref 66)) rfl
        have gL19_1 : jGet L19 1 = some (.int (i32 (x))) := eL19 ▸ jg_ne (by decide) (rfl : jGet [(0, .ref 66), (1, .int (i32 (x)))] 1 = some (.int (i32 (x)))) rfl
        have gL19_2 : jGet L19 2 = some (.int (i32 (r12))) := eL19 ▸ jg_eq
        refine jx_ld (pc' := 17) (l' := L19) (st' := [.int (i32 (r12))]) rfl (jl_iloadn gL19_2) ?_
        refine jx_if_ne (pc' := 20) (tg := 22) rfl rfl rfl (Int.le_trans (by decide : (-2147483648 : Int) ≤ -2147483648) b13.1) (Int.le_trans b13.2 (by decide : (2147483647 : Int) ≤ 2147483647)) (fun h20 => ?_) (fun h20 => ?_)
        · have _q := h20
          refine jx_ld (pc' := 23) (l' := L19) (st' := [.ref 66]) rfl (jl_aloadn gL19_0) ?_
          refine jx_vr (pc' := 26) (as := []) (st := []) rfl rfl rfl rfl ⟨rfl, rfl, Nat.le_of_ble_eq_true rfl⟩ rfl rfl (c_next (dd := d) (hd := by omega) (hW := hW)  (ln := ln) (e_ln := show G 9 = ln from (e_ln)) (le := le) (e_le := show A 4 (ln).toNat = le from (e_le)) (at0 := at0) (e_at0 := show G 10 = at0 from (e_at0))    (p_0 := by omega)) (fun o V' hq => ?_)
          obtain ⟨G21, A22, at2_23, tk2_24, rfl, rfl, hW25, hF26, e27, e28, p29, p30, p31, -⟩ := hq
          have hF33 := Fr_tr hF0 hF26 (Fr_sub (by decide)) (Fr_sub (by decide))
          have hP34 := Pf_f hP0 hF26 (by decide)
          have sf35 : wE A22 Vs sb (2 * k + 3) (x) (lo) (nd) := wE_ag (by omega) (Sg_fr hF26 (by decide)) (Ag_fr hF26 (by decide)) (p_9 (by omega))
          have ec36 : ecn A22 (G21 31) = ec := (ecn_f (hF26.2 15 rfl) (hF26.1 31 rfl)).trans e_ec
          have bat2_23 : (0 : Int) ≤ at2_23 ∧ at2_23 ≤ 3002 := e27 ▸ hW25.1 10
          have ztk2_24 := tz_b tk2_24
          have btk2_24 : (0 : Int) ≤ tk2_24 ∧ tk2_24 ≤ 5 := e28 ▸ hW25.1 11
          refine .inl ⟨rfl, ?_⟩
          refine jx_ld (pc' := 27) (l' := L19) (st' := [.ref 66]) rfl (jl_aloadn gL19_0) ?_
          refine jx_vr (pc' := 30) (as := []) (st := []) rfl rfl rfl rfl ⟨rfl, rfl, Nat.le_of_ble_eq_true rfl⟩ rfl rfl (c_readOperand_w (dd := d) (hE := hE) (hd := by omega) (hW := hW25)  (ln := ln) (e_ln := show G21 9 = ln from ((hF26.1 9 rfl).trans (e_ln))) (le := le) (e_le := show A22 4 (ln).toNat = le from (congrFun (hF26.2 4 rfl) _).trans (e_le)) (at0 := at2_23) (e_at0 := show G21 10 = at2_23 from (e27)) (fk := fk) (e_fk := show G21 16 = fk from ((hF26.1 16 rfl).trans (e_fk))) (op0 := op0) (e_op0 := show G21 15 = op0 from ((hF26.1 15 rfl).trans (e_op0))) (nd := nd) (e_nd := show G21 31 = nd from ((hF26.1 31 rfl).trans (e_nd))) (tk0 := tk2_24) (e_tk0 := show G21 11 = tk2_24 from (e28)) (ec := ec) (e_ec := show ecn A22 (G21 31) = ec from ec36) (i_SV := (SV_ext ((hF26.1 29 rfl)) ((hF26.2 14 rfl)) i_SV))   (p_0 := by omega) (p_1 := by omega) (p_2 := by omega) (p_3 := by omega) (p_4 := by omega) (p_5 := by omega)) (fun o V' hq => ?_)
          obtain ⟨G37, A38, r39, at2_40, fk2_41, op2_42, nd2_43, tk2_44, ec2_45, rfl, rfl, hW46, hF47, hQ48, b49, e50, e51, e52, e53, e54, e55, p56, p57, p58, p59, p60, p61, q62⟩ := hq
          have hF63 := Fr_tr hF33 hF47 (Fr_sub (by decide)) (Fr_sub (by decide))
          have hP64 := Pf_tr hP34 hQ48 (by omega)
          have sf65 : wE A38 Vs sb (2 * k + 3) (x) (lo) (nd) := wE_ag (by omega) (Sg_fr hF47 (by decide)) (Ag_pf hQ48 (by omega)) sf35
          have bat2_40 : (0 : Int) ≤ at2_40 ∧ at2_40 ≤ 3002 := e50 ▸ hW46.1 10
          have bfk2_41 : (0 : Int) ≤ fk2_41 ∧ fk2_41 ≤ 6 := e51 ▸ hW46.1 16
          have bop2_42 : (-2147483648 : Int) ≤ op2_42 ∧ op2_42 ≤ 2147483647 := e52 ▸ hW46.1 15
          have bnd2_43 : (0 : Int) ≤ nd2_43 ∧ nd2_43 ≤ 6999 := e53 ▸ hW46.1 31
          have ztk2_44 := tz_b tk2_44
          have btk2_44 : (0 : Int) ≤ tk2_44 ∧ tk2_44 ≤ 5 := e54 ▸ hW46.1 11
          refine .inr ⟨_, rfl, ?_⟩
          rcases q62 with ⟨a66, a67, a68, a69, a70, a71⟩ | ⟨a72, a73, a74⟩ | ⟨a75, a76, a77, a78, a79⟩
          · have _q : True := trivial
            exfalso
            omega
          · have _q : True := trivial
            refine jx_ld (pc' := 31) (l' := jSto1 L19 3 (.int (i32 (r39)))) (st' := []) rfl rfl ?_
            obtain ⟨L80, eL80⟩ : ∃ q, q = jSto1 L19 3 (.int (i32 (r39))) := ⟨_, rfl⟩
            rw [← eL80]
            have gL80_0 : jGet L80 0 = some (.ref 66) := eL80 ▸ jg_ne (by decide) gL19_0 rfl
            have gL80_1 : jGet L80 1 = some (.int (i32 (x))) := eL80 ▸ jg_ne (by decide) gL19_1 rfl
            have gL80_2 : jGet L80 2 = some (.int (i32 (r12))) := eL80 ▸ jg_ne (by decide) gL19_2 rfl
            have gL80_3 : jGet L80 3 = some (.int (i32 (r39))) := eL80 ▸ jg_eq
            refine jx_ld (pc' := 32) (l' := L80) (st' := [.ref 66]) rfl (jl_aloadn gL80_0) ?_
            refine jx_ar (pc' := 33) (st' := [.int (i32 (4)), .ref 66]) rfl rfl rfl rfl ?_
            refine jx_ld (pc' := 34) (l' := L80) (st' := [.int (i32 (r12)), .int (i32 (4)), .ref 66]) rfl (jl_iloadn gL80_2) ?_
            refine jx_ld (pc' := 35) (l' := L80) (st' := [.int (i32 (x)), .int (i32 (r12)), .int (i32 (4)), .ref 66]) rfl (jl_iloadn gL80_1) ?_
            refine jx_ld (pc' := 36) (l' := L80) (st' := [.int (i32 (r39)), .int (i32 (x)), .int (i32 (r12)), .int (i32 (4)), .ref 66]) rfl (jl_iloadn gL80_3) ?_
            refine jx_ar (pc' := 37) (st' := [.int (i32 (0)), .int (i32 (r39)), .int (i32 (x)), .int (i32 (r12)), .int (i32 (4)), .ref 66]) rfl rfl rfl rfl ?_
            refine jx_vr (pc' := 40) (as := [.int (i32 (4)), .int (i32 (r12)), .int (i32 (x)), .int (i32 (r39)), .int (i32 (0))]) (st := []) rfl rfl rfl rfl ⟨rfl, rfl, Nat.le_of_ble_eq_true rfl⟩ rfl rfl (c_node_o (dd := d) (hd := by omega) (hW := hW46) (kind := 4) (a := r12) (b := x) (c := r39) (e := 0) (nd := nd2_43) (e_nd := show G37 31 = nd2_43 from (e53)) (ec := ec2_45) (e_ec := show ecn A38 (G37 31) = ec2_45 from e55)  (h_kind := ⟨(by decide), (by decide)⟩) (h_a := ⟨(Int.le_trans (by decide : (-2147483648 : Int) ≤ -2147483648) b13.1), (Int.le_trans b13.2 (by decide : (2147483647 : Int) ≤ 2147483647))⟩) (h_b := ⟨(Int.le_trans (by decide : (-2147483648 : Int) ≤ -2147483648) h_x.1), (Int.le_trans h_x.2 (by decide : (2147483647 : Int) ≤ 2147483647))⟩) (h_c := ⟨(Int.le_trans (by decide : (-2147483648 : Int) ≤ -2147483648) b49.1), (Int.le_trans b49.2 (by decide : (2147483647 : Int) ≤ 2147483647))⟩) (h_e := ⟨(by decide), (by decide)⟩)  (p_0 := by omega) (p_1 := by omega) (p_2 := by omega)) (fun o V' hq => ?_)
            obtain ⟨G81, A82, nd2_83, ec2_84, rfl, rfl, hW85, hF86, hQ87, e88, e89, p90, p91, p92, -⟩ := hq
            have hF94 := Fr_tr hF63 hF86 (Fr_sub (by decide)) (Fr_sub (by decide))
            have hP95 := Pf_tr hP64 hQ87 (by omega)
            have sf96 : wE A82 Vs sb (2 * k + 3) (x) (lo) (nd) := wE_ag (by omega) (Sg_fr hF86 (by decide)) (Ag_pf hQ87 (by omega)) sf65
            have bnd2_83 : (0 : Int) ≤ nd2_83 ∧ nd2_83 ≤ 6999 := e88 ▸ hW85.1 31
            refine .inr ⟨_, rfl, ?_⟩
            refine jx_rt (v := some (.int (i32 (nd2_43)))) rfl rfl rfl rfl rfl rfl ?_
            have z97 := tz_f (tk2_44)
            exact ⟨_, _, _, at2_40, fk2_41, op2_42, nd2_83, tk2_44, ec2_84, rfl, rfl, hW85, hF94, hP95, by omega, ((hF86.1 10 rfl).trans (e50)), ((hF86.1 16 rfl).trans (e51)), ((hF86.1 15 rfl).trans (e52)), (e88), ((hF86.1 11 rfl).trans (e54)), e89, by omega, by omega, by omega, by omega, by omega, by omega, by first | exact Or.inr (Or.inl (⟨by omega, by omega, by omega⟩))⟩
          · have _q : True := trivial
            refine jx_ld (pc' := 31) (l' := jSto1 L19 3 (.int (i32 (r39)))) (st' := []) rfl rfl ?_
            obtain ⟨L98, eL98⟩ : ∃ q, q = jSto1 L19 3 (.int (i32 (r39))) := ⟨_, rfl⟩
            rw [← eL98]
            have gL98_0 : jGet L98 0 = some (.ref 66) := eL98 ▸ jg_ne (by decide) gL19_0 rfl
            have gL98_1 : jGet L98 1 = some (.int (i32 (x))) := eL98 ▸ jg_ne (by decide) gL19_1 rfl
            have gL98_2 : jGet L98 2 = some (.int (i32 (r12))) := eL98 ▸ jg_ne (by decide) gL19_2 rfl
            have gL98_3 : jGet L98 3 = some (.int (i32 (r39))) := eL98 ▸ jg_eq
            refine jx_ld (pc' := 32) (l' := L98) (st' := [.ref 66]) rfl (jl_aloadn gL98_0) ?_
            refine jx_ar (pc' := 33) (st' := [.int (i32 (4)), .ref 66]) rfl rfl rfl rfl ?_
            refine jx_ld (pc' := 34) (l' := L98) (st' := [.int (i32 (r12)), .int (i32 (4)), .ref 66]) rfl (jl_iloadn gL98_2) ?_
            refine jx_ld (pc' := 35) (l' := L98) (st' := [.int (i32 (x)), .int (i32 (r12)), .int (i32 (4)), .ref 66]) rfl (jl_iloadn gL98_1) ?_
            refine jx_ld (pc' := 36) (l' := L98) (st' := [.int (i32 (r39)), .int (i32 (x)), .int (i32 (r12)), .int (i32 (4)), .ref 66]) rfl (jl_iloadn gL98_3) ?_
            refine jx_ar (pc' := 37) (st' := [.int (i32 (0)), .int (i32 (r39)), .int (i32 (x)), .int (i32 (r12)), .int (i32 (4)), .ref 66]) rfl rfl rfl rfl ?_
            refine jx_vr (pc' := 40) (as := [.int (i32 (4)), .int (i32 (r12)), .int (i32 (x)), .int (i32 (r39)), .int (i32 (0))]) (st := []) rfl rfl rfl rfl ⟨rfl, rfl, Nat.le_of_ble_eq_true rfl⟩ rfl rfl (c_node_o (dd := d) (hd := by omega) (hW := hW46) (kind := 4) (a := r12) (b := x) (c := r39) (e := 0) (nd := nd2_43) (e_nd := show G37 31 = nd2_43 from (e53)) (ec := ec2_45) (e_ec := show ecn A38 (G37 31) = ec2_45 from e55)  (h_kind := ⟨(by decide), (by decide)⟩) (h_a := ⟨(Int.le_trans (by decide : (-2147483648 : Int) ≤ -2147483648) b13.1), (Int.le_trans b13.2 (by decide : (2147483647 : Int) ≤ 2147483647))⟩) (h_b := ⟨(Int.le_trans (by decide : (-2147483648 : Int) ≤ -2147483648) h_x.1), (Int.le_trans h_x.2 (by decide : (2147483647 : Int) ≤ 2147483647))⟩) (h_c := ⟨(Int.le_trans (by decide : (-2147483648 : Int) ≤ -2147483648) b49.1), (Int.le_trans b49.2 (by decide : (2147483647 : Int) ≤ 2147483647))⟩) (h_e := ⟨(by decide), (by decide)⟩)  (p_0 := by omega) (p_1 := by omega) (p_2 := by omega)) (fun o V' hq => ?_)
            obtain ⟨G99, A100, nd2_101, ec2_102, rfl, rfl, hW103, hF104, hQ105, e106, e107, p108, p109, p110, -⟩ := hq
            have hF112 := Fr_tr hF63 hF104 (Fr_sub (by decide)) (Fr_sub (by decide))
            have hP113 := Pf_tr hP64 hQ105 (by omega)
            have sf114 : wE A100 Vs sb (2 * k + 3) (x) (lo) (nd) := wE_ag (by omega) (Sg_fr hF104 (by decide)) (Ag_pf hQ105 (by omega)) sf65
            have sf115 : wE A100 Vs sb (2 * k + 3) (r39) (nd) (nd2_43) := wE_ag (by omega) (Sg_fr hF104 (by decide)) (Ag_pf hQ105 (by omega)) a78
            have bnd2_101 : (0 : Int) ≤ nd2_101 ∧ nd2_101 ≤ 6999 := e106 ▸ hW103.1 31
            refine .inr ⟨_, rfl, ?_⟩
            refine jx_rt (v := some (.int (i32 (nd2_43)))) rfl rfl rfl rfl rfl rfl ?_
            have z116 := tz_f (tk2_44)
            exact ⟨_, _, _, at2_40, fk2_41, op2_42, nd2_101, tk2_44, ec2_102, rfl, rfl, hW103, hF112, hP113, by omega, ((hF104.1 10 rfl).trans (e50)), ((hF104.1 16 rfl).trans (e51)), ((hF104.1 15 rfl).trans (e52)), (e106), ((hF104.1 11 rfl).trans (e54)), e107, by omega, by omega, by omega, by omega, by omega, by omega, by first | exact Or.inr (Or.inr ((⟨by omega, by omega, by omega, (wE_two p110 (by omega) (by omega) (w := nd) (by omega) (by omega) (wE_mono (by omega) (by omega) (by omega) sf114) (wE_mono (by omega) (by omega) (by omega) sf115)), by omega⟩)))⟩
        · have _q := h20
          refine jx_ld (pc' := 21) (l' := L19) (st' := [.int (i32 (x))]) rfl (jl_iloadn gL19_1) ?_
          refine jx_rt (v := some (.int (i32 (x)))) rfl rfl rfl rfl rfl rfl ?_
          have z117 := tz_f (tk0)
          exact ⟨_, _, _, at0, fk, op0, nd, tk0, ec, rfl, rfl, hW, hF0, hP0, by omega, (e_at0), (e_fk), (e_op0), (e_nd), (e_tk0), e_ec, by omega, by omega, by omega, by omega, by omega, by omega, by first | exact Or.inr (Or.inr ((⟨by omega, by omega, by omega, (wE_mono (by omega) (by omega) (by omega) (p_9 (by omega))), by omega⟩)))⟩
    · have _q := h10
      exact absurd h10 (by omega)
set_option maxRecDepth 20000 in
set_option maxHeartbeats 4000000 in
theorem c_readE_s_w {X : jX} {k : Nat} (hE : REw X k) {dd : Nat} {Vs : Nat → Prop} {sb : Int} {c0 c1 : jC} {G : Nat → Int} {A : Nat → Nat → Int} {T : jH} {ln le at0 fk op0 nd tk0 ec : Int} (hd : 6 * (k + 1) + 10 ≤ dd) (hW : Wk G A) (e_ln : G 9 = ln) (e_le : A 4 (ln).toNat = le) (e_at0 : G 10 = at0) (e_fk : G 16 = fk) (e_op0 : G 15 = op0) (e_nd : G 31 = nd) (e_tk0 : G 11 = tk0) (e_ec : ecn A (G 31) = ec) (i_SV : SV Vs sb G A) (p_0 : 0 ≤ op0) (p_1 : op0 ≤ 9) (p_2 : op0 ≤ 8 ∨ 1 ≤ fk) (p_3 : 9 - op0 ≤ ((k + 1 : Nat) : Int) ∨ 1 ≤ fk) (p_4 : nd ≤ 2 * at0 - tz tk0 + 50) (p_5 : at0 ≤ le) : wk X dd 286 [.ref 66] (rV c0 c1 G A T) (fun o V' => ∃ (G' : Nat → Int) (A' : Nat → Nat → Int) (r : Int) (at2 : Int) (fk2 : Int) (op2 : Int) (nd2 : Int) (tk2 : Int) (ec2 : Int), V' = rV c0 c1 G' A' T ∧ o = .inl (some (.int (i32 r))) ∧ Wk G' A' ∧ Fr [10, 11, 12, 13, 14, 15, 16, 17, 18, 31] [15, 16, 17, 18, 19, 20, 21, 22, 24, 28] G A G' A' ∧ Pf nd A A' ∧ ((-2147483648 : Int) ≤ r ∧ r ≤ 2147483647) ∧ G' 10 = at2 ∧ G' 16 = fk2 ∧ G' 15 = op2 ∧ G' 31 = nd2 ∧ G' 11 = tk2 ∧ ecn A' (G' 31) = ec2 ∧ (at0 ≤ at2) ∧ (at2 ≤ le) ∧ (nd ≤ nd2) ∧ (op2 = op0) ∧ (0 ≤ r) ∧ (r ≤ nd2) ∧ (((1 ≤ fk) ∧ (1 ≤ fk2) ∧ (nd2 = nd) ∧ (at2 = at0) ∧ (tk2 = tk0) ∧ (tz tk2 = tz tk0)) ∨ ((fk = 0) ∧ (1 ≤ fk2) ∧ (nd2 - nd ≤ (2 * at2 - tz tk2) - (2 * at0 - tz tk0) + 1)) ∨ ((fk = 0) ∧ (fk2 = 0) ∧ (nd2 - nd ≤ (2 * at2 - tz tk2) - (2 * at0 - tz tk0)) ∧ (wE A' Vs sb (2 * (k + 1) + 2) (r) (nd) (nd2)) ∧ (nd2 - nd + 5 * (ec2 - ec) ≤ (2 * at2 - tz tk2) - (2 * at0 - tz tk0) - tz tk2)))) := by
  obtain ⟨d, rfl⟩ : ∃ d, dd = d + 1 := ⟨dd - 1, by omega⟩
  refine wk_of (e := jm286) rfl (Nat.le_of_ble_eq_true rfl) ?_
  show wj X d jm286 (0, [(0, .ref 66)], [], rV c0 c1 G A T) _
  have hF0 : Fr [10, 11, 12, 13, 14, 15, 16, 17, 18, 31] [15, 16, 17, 18, 19, 20, 21, 22, 24, 28] G A G A := Fr_rf
  have hP0 : Pf nd A A := Pf_rf
  have b_ln : (0 : Int) ≤ ln ∧ ln ≤ 3000 := e_ln ▸ hW.1 9
  have b_le : (0 : Int) ≤ le ∧ le ≤ 3000 := e_le ▸ hW.2 4 _
  have b_at0 : (0 : Int) ≤ at0 ∧ at0 ≤ 3002 := e_at0 ▸ hW.1 10
  have b_fk : (0 : Int) ≤ fk ∧ fk ≤ 6 := e_fk ▸ hW.1 16
  have b_op0 : (-2147483648 : Int) ≤ op0 ∧ op0 ≤ 2147483647 := e_op0 ▸ hW.1 15
  have b_nd : (0 : Int) ≤ nd ∧ nd ≤ 6999 := e_nd ▸ hW.1 31
  have z_tk0 := tz_f tk0
  have b_tk0 : (0 : Int) ≤ tk0 ∧ tk0 ≤ 5 := e_tk0 ▸ hW.1 11
  refine jx_ld (pc' := 1) (l' := [(0, .ref 66)]) (st' := [.ref 66]) rfl (jl_aloadn rfl) ?_
  refine jx_vr (pc' := 4) (as := []) (st := []) rfl rfl rfl rfl ⟨rfl, rfl, Nat.le_of_ble_eq_true rfl⟩ rfl rfl (c_bad (dd := d) (hd := by omega) (hW := hW)  (fk := fk) (e_fk := show G 16 = fk from (e_fk))    ) (fun o V' hq => ?_)
  obtain ⟨r1, rfl, rfl, b2, q3⟩ := hq
  refine .inr ⟨_, rfl, ?_⟩
  rcases q3 with ⟨rfl, a4⟩ | ⟨rfl, a5⟩
  · have _q : True := trivial
    refine jx_if_eq (pc' := 7) (tg := 9) rfl rfl rfl (by decide) (by decide) (fun h6 => ?_) (fun h6 => ?_)
    · have _q := h6
      exact absurd h6 (by omega)
    · have _q := h6
      refine jx_ar (pc' := 8) (st' := [.int (i32 (0))]) rfl rfl rfl rfl ?_
      refine jx_rt (v := some (.int (i32 (0)))) rfl rfl rfl rfl rfl rfl ?_
      have z7 := tz_f (tk0)
      exact ⟨_, _, _, at0, fk, op0, nd, tk0, ec, rfl, rfl, hW, hF0, hP0, by omega, (e_at0), (e_fk), (e_op0), (e_nd), (e_tk0), e_ec, by omega, by omega, by omega, by omega, by omega, by omega, by first | exact Or.inl (⟨by omega, by omega, by omega, by omega, by omega, by omega⟩)⟩
  · have _q : True := trivial
    refine jx_if_eq (pc' := 7) (tg := 9) rfl rfl rfl (by decide) (by decide) (fun h8 => ?_) (fun h8 => ?_)
    · have _q := h8
      refine jx_ld (pc' := 10) (l' := [(0, .ref 66)]) (st' := [.ref 66]) rfl (jl_aloadn rfl) ?_
      refine jx_ar (pc' := 12) (st' := [.int (i32 (45)), .ref 66]) rfl rfl rfl rfl ?_
      have b9 : (-2147483648 : Int) ≤ G 13 ∧ G 13 ≤ 2147483647 := hW.1 13
      refine jx_vr (pc' := 15) (as := [.int (i32 (45))]) (st := []) rfl rfl rfl rfl ⟨rfl, rfl, Nat.le_of_ble_eq_true rfl⟩ rfl rfl (c_is (dd := d) (hd := by omega) (hW := hW) (k := 45) (tk := tk0) (e_tk := show G 11 = tk0 from (e_tk0)) (tn := G 13) (e_tn := show G 13 = G 13 from rfl)  (h_k := ⟨(by decide), (by decide)⟩)  ) (fun o V' hq => ?_)
      obtain ⟨r10, rfl, rfl, b11, q12⟩ := hq
      refine .inr ⟨_, rfl, ?_⟩
      rcases q12 with ⟨rfl, a13, a14, a15⟩ | rfl
      · have _q : True := trivial
        refine jx_if_ne (pc' := 18) (tg := 27) rfl rfl rfl (by decide) (by decide) (fun h16 => ?_) (fun h16 => ?_)
        · have _q := h16
          refine jx_ld (pc' := 28) (l' := [(0, .ref 66)]) (st' := [.ref 66]) rfl (jl_aloadn rfl) ?_
          refine jx_ar (pc' := 30) (st' := [.int (i32 (45)), .ref 66]) rfl rfl rfl rfl ?_
          refine jx_vr (pc' := 33) (as := [.int (i32 (45))]) (st := []) rfl rfl rfl rfl ⟨rfl, rfl, Nat.le_of_ble_eq_true rfl⟩ rfl rfl (c_is (dd := d) (hd := by omega) (hW := hW) (k := 45) (tk := tk0) (e_tk := show G 11 = tk0 from (e_tk0)) (tn := G 13) (e_tn := show G 13 = G 13 from rfl)  (h_k := ⟨(by decide), (by decide)⟩)  ) (fun o V' hq => ?_)
          obtain ⟨r17, rfl, rfl, b18, q19⟩ := hq
          refine .inr ⟨_, rfl, ?_⟩
          rcases q19 with ⟨rfl, a20, a21, a22⟩ | rfl
          · have _q : True := trivial
            refine jx_if_eq (pc' := 36) (tg := 40) rfl rfl rfl (by decide) (by decide) (fun h23 => ?_) (fun h23 => ?_)
            · have _q := h23
              exact absurd h23 (by omega)
            · have _q := h23
              refine jx_ar (pc' := 37) (st' := [.int (i32 (5))]) rfl rfl rfl rfl ?_
              refine jx_go (tg := 42) rfl rfl ?_
              refine jx_ld (pc' := 43) (l' := jSto1 [(0, .ref 66)] 1 (.int (i32 (5)))) (st' := []) rfl rfl ?_
              obtain ⟨L24, eL24⟩ : ∃ q, q = jSto1 [(0, .ref 66)] 1 (.int (i32 (5))) := ⟨_, rfl⟩
              rw [← eL24]
              have gL24_0 : jGet L24 0 = some (.ref 66) := eL24 ▸ jg_ne (by decide) (rfl : jGet [(0, .ref 66)] 0 = some (.ref 66)) rfl
              have gL24_1 : jGet L24 1 = some (.int (i32 (5))) := eL24 ▸ jg_eq
              refine jx_ld (pc' := 44) (l' := L24) (st' := [.ref 66]) rfl (jl_aloadn gL24_0) ?_
              refine jx_vr (pc' := 47) (as := []) (st := []) rfl rfl rfl rfl ⟨rfl, rfl, Nat.le_of_ble_eq_true rfl⟩ rfl rfl (c_next (dd := d) (hd := by omega) (hW := hW)  (ln := ln) (e_ln := show G 9 = ln from (e_ln)) (le := le) (e_le := show A 4 (ln).toNat = le from (e_le)) (at0 := at0) (e_at0 := show G 10 = at0 from (e_at0))    (p_0 := by omega)) (fun o V' hq => ?_)
              obtain ⟨G25, A26, at2_27, tk2_28, rfl, rfl, hW29, hF30, e31, e32, p33, p34, p35, -⟩ := hq
              have hF37 := Fr_tr hF0 hF30 (Fr_sub (by decide)) (Fr_sub (by decide))
              have hP38 := Pf_f hP0 hF30 (by decide)
              have ec39 : ecn A26 (G25 31) = ec := (ecn_f (hF30.2 15 rfl) (hF30.1 31 rfl)).trans e_ec
              have bat2_27 : (0 : Int) ≤ at2_27 ∧ at2_27 ≤ 3002 := e31 ▸ hW29.1 10
              have ztk2_28 := tz_b tk2_28
              have btk2_28 : (0 : Int) ≤ tk2_28 ∧ tk2_28 ≤ 5 := e32 ▸ hW29.1 11
              refine .inl ⟨rfl, ?_⟩
              refine jx_ld (pc' := 48) (l' := L24) (st' := [.ref 66]) rfl (jl_aloadn gL24_0) ?_
              refine jx_vr (pc' := 51) (as := []) (st := []) rfl rfl rfl rfl ⟨rfl, rfl, Nat.le_of_ble_eq_true rfl⟩ rfl rfl (c_readOperand_w (dd := d) (hE := hE) (hd := by omega) (hW := hW29)  (ln := ln) (e_ln := show G25 9 = ln from ((hF30.1 9 rfl).trans (e_ln))) (le := le) (e_le := show A26 4 (ln).toNat = le from (congrFun (hF30.2 4 rfl) _).trans (e_le)) (at0 := at2_27) (e_at0 := show G25 10 = at2_27 from (e31)) (fk := fk) (e_fk := show G25 16 = fk from ((hF30.1 16 rfl).trans (e_fk))) (op0 := op0) (e_op0 := show G25 15 = op0 from ((hF30.1 15 rfl).trans (e_op0))) (nd := nd) (e_nd := show G25 31 = nd from ((hF30.1 31 rfl).trans (e_nd))) (tk0 := tk2_28) (e_tk0 := show G25 11 = tk2_28 from (e32)) (ec := ec) (e_ec := show ecn A26 (G25 31) = ec from ec39) (i_SV := (SV_ext ((hF30.1 29 rfl)) ((hF30.2 14 rfl)) i_SV))   (p_0 := by omega) (p_1 := by omega) (p_2 := by omega) (p_3 := by omega) (p_4 := by omega) (p_5 := by omega)) (fun o V' hq => ?_)
              obtain ⟨G40, A41, r42, at2_43, fk2_44, op2_45, nd2_46, tk2_47, ec2_48, rfl, rfl, hW49, hF50, hQ51, b52, e53, e54, e55, e56, e57, e58, p59, p60, p61, p62, p63, p64, q65⟩ := hq
              have hF66 := Fr_tr hF37 hF50 (Fr_sub (by decide)) (Fr_sub (by decide))
              have hP67 := Pf_tr hP38 hQ51 (by omega)
              have bat2_43 : (0 : Int) ≤ at2_43 ∧ at2_43 ≤ 3002 := e53 ▸ hW49.1 10
              have bfk2_44 : (0 : Int) ≤ fk2_44 ∧ fk2_44 ≤ 6 := e54 ▸ hW49.1 16
              have bop2_45 : (-2147483648 : Int) ≤ op2_45 ∧ op2_45 ≤ 2147483647 := e55 ▸ hW49.1 15
              have bnd2_46 : (0 : Int) ≤ nd2_46 ∧ nd2_46 ≤ 6999 := e56 ▸ hW49.1 31
              have ztk2_47 := tz_b tk2_47
              have btk2_47 : (0 : Int) ≤ tk2_47 ∧ tk2_47 ≤ 5 := e57 ▸ hW49.1 11
              refine .inr ⟨_, rfl, ?_⟩
              rcases q65 with ⟨a68, a69, a70, a71, a72, a73⟩ | ⟨a74, a75, a76⟩ | ⟨a77, a78, a79, a80, a81⟩
              · have _q : True := trivial
                exfalso
                omega
              · have _q : True := trivial
                refine jx_ld (pc' := 52) (l' := jSto1 L24 2 (.int (i32 (r42)))) (st' := []) rfl rfl ?_
                obtain ⟨L82, eL82⟩ : ∃ q, q = jSto1 L24 2 (.int (i32 (r42))) := ⟨_, rfl⟩
                rw [← eL82]
                have gL82_0 : jGet L82 0 = some (.ref 66) := eL82 ▸ jg_ne (by decide) gL24_0 rfl
                have gL82_1 : jGet L82 1 = some (.int (i32 (5))) := eL82 ▸ jg_ne (by decide) gL24_1 rfl
                have gL82_2 : jGet L82 2 = some (.int (i32 (r42))) := eL82 ▸ jg_eq
                refine jx_ld (pc' := 53) (l' := L82) (st' := [.ref 66]) rfl (jl_aloadn gL82_0) ?_
                refine jx_ld (pc' := 54) (l' := L82) (st' := [.int (i32 (5)), .ref 66]) rfl (jl_iloadn gL82_1) ?_
                refine jx_ld (pc' := 55) (l' := L82) (st' := [.int (i32 (r42)), .int (i32 (5)), .ref 66]) rfl (jl_iloadn gL82_2) ?_
                refine jx_ar (pc' := 56) (st' := [.int (i32 (0)), .int (i32 (r42)), .int (i32 (5)), .ref 66]) rfl rfl rfl rfl ?_
                refine jx_ar (pc' := 57) (st' := [.int (i32 (0)), .int (i32 (0)), .int (i32 (r42)), .int (i32 (5)), .ref 66]) rfl rfl rfl rfl ?_
                refine jx_ar (pc' := 58) (st' := [.int (i32 (0)), .int (i32 (0)), .int (i32 (0)), .int (i32 (r42)), .int (i32 (5)), .ref 66]) rfl rfl rfl rfl ?_
                refine jx_vr (pc' := 61) (as := [.int (i32 (5)), .int (i32 (r42)), .int (i32 (0)), .int (i32 (0)), .int (i32 (0))]) (st := []) rfl rfl rfl rfl ⟨rfl, rfl, Nat.le_of_ble_eq_true rfl⟩ rfl rfl (c_node_o (dd := d) (hd := by omega) (hW := hW49) (kind := 5) (a := r42) (b := 0) (c := 0) (e := 0) (nd := nd2_46) (e_nd := show G40 31 = nd2_46 from (e56)) (ec := ec2_48) (e_ec := show ecn A41 (G40 31) = ec2_48 from e58)  (h_kind := ⟨(by decide), (by decide)⟩) (h_a := ⟨(Int.le_trans (by decide : (-2147483648 : Int) ≤ -2147483648) b52.1), (Int.le_trans b52.2 (by decide : (2147483647 : Int) ≤ 2147483647))⟩) (h_b := ⟨(by decide), (by decide)⟩) (h_c := ⟨(by decide), (by decide)⟩) (h_e := ⟨(by decide), (by decide)⟩)  (p_0 := by omega) (p_1 := by omega) (p_2 := by omega)) (fun o V' hq => ?_)
                obtain ⟨G83, A84, nd2_85, ec2_86, rfl, rfl, hW87, hF88, hQ89, e90, e91, p92, p93, p94, -⟩ := hq
                have hF96 := Fr_tr hF66 hF88 (Fr_sub (by decide)) (Fr_sub (by decide))
                have hP97 := Pf_tr hP67 hQ89 (by omega)
                have bnd2_85 : (0 : Int) ≤ nd2_85 ∧ nd2_85 ≤ 6999 := e90 ▸ hW87.1 31
                refine .inr ⟨_, rfl, ?_⟩
                refine jx_rt (v := some (.int (i32 (nd2_46)))) rfl rfl rfl rfl rfl rfl ?_
                have z98 := tz_f (tk2_47)
                exact ⟨_, _, _, at2_43, fk2_44, op2_45, nd2_85, tk2_47, ec2_86, rfl, rfl, hW87, hF96, hP97, by omega, ((hF88.1 10 rfl).trans (e53)), ((hF88.1 16 rfl).trans (e54)), ((hF88.1 15 rfl).trans (e55)), (e90), ((hF88.1 11 rfl).trans (e57)), e91, by omega, by omega, by omega, by omega, by omega, by omega, by first | exact Or.inr (Or.inl (⟨by omega, by omega, by omega⟩))⟩
              · have _q : True := trivial
                refine jx_ld (pc' := 52) (l' := jSto1 L24 2 (.int (i32 (r42)))) (st' := []) rfl rfl ?_
                obtain ⟨L99, eL99⟩ : ∃ q, q = jSto1 L24 2 (.int (i32 (r42))) := ⟨_, rfl⟩
                rw [← eL99]
                have gL99_0 : jGet L99 0 = some (.ref 66) := eL99 ▸ jg_ne (by decide) gL24_0 rfl
                have gL99_1 : jGet L99 1 = some (.int (i32 (5))) := eL99 ▸ jg_ne (by decide) gL24_1 rfl
                have gL99_2 : jGet L99 2 = some (.int (i32 (r42))) := eL99 ▸ jg_eq
                refine jx_ld (pc' := 53) (l' := L99) (st' := [.ref 66]) rfl (jl_aloadn gL99_0) ?_
                refine jx_ld (pc' := 54) (l' := L99) (st' := [.int (i32 (5)), .ref 66]) rfl (jl_iloadn gL99_1) ?_
                refine jx_ld (pc' := 55) (l' := L99) (st' := [.int (i32 (r42)), .int (i32 (5)), .ref 66]) rfl (jl_iloadn gL99_2) ?_
                refine jx_ar (pc' := 56) (st' := [.int (i32 (0)), .int (i32 (r42)), .int (i32 (5)), .ref 66]) rfl rfl rfl rfl ?_
                refine jx_ar (pc' := 57) (st' := [.int (i32 (0)), .int (i32 (0)), .int (i32 (r42)), .int (i32 (5)), .ref 66]) rfl rfl rfl rfl ?_
                refine jx_ar (pc' := 58) (st' := [.int (i32 (0)), .int (i32 (0)), .int (i32 (0)), .int (i32 (r42)), .int (i32 (5)), .ref 66]) rfl rfl rfl rfl ?_
                refine jx_vr (pc' := 61) (as := [.int (i32 (5)), .int (i32 (r42)), .int (i32 (0)), .int (i32 (0)), .int (i32 (0))]) (st := []) rfl rfl rfl rfl ⟨rfl, rfl, Nat.le_of_ble_eq_true rfl⟩ rfl rfl (c_node_o (dd := d) (hd := by omega) (hW := hW49) (kind := 5) (a := r42) (b := 0) (c := 0) (e := 0) (nd := nd2_46) (e_nd := show G40 31 = nd2_46 from (e56)) (ec := ec2_48) (e_ec := show ecn A41 (G40 31) = ec2_48 from e58)  (h_kind := ⟨(by decide), (by decide)⟩) (h_a := ⟨(Int.le_trans (by decide : (-2147483648 : Int) ≤ -2147483648) b52.1), (Int.le_trans b52.2 (by decide : (2147483647 : Int) ≤ 2147483647))⟩) (h_b := ⟨(by decide), (by decide)⟩) (h_c := ⟨(by decide), (by decide)⟩) (h_e := ⟨(by decide), (by decide)⟩)  (p_0 := by omega) (p_1 := by omega) (p_2 := by omega)) (fun o V' hq => ?_)
                obtain ⟨G100, A101, nd2_102, ec2_103, rfl, rfl, hW104, hF105, hQ106, e107, e108, p109, p110, p111, -⟩ := hq
                have hF113 := Fr_tr hF66 hF105 (Fr_sub (by decide)) (Fr_sub (by decide))
                have hP114 := Pf_tr hP67 hQ106 (by omega)
                have sf115 : wE A101 Vs sb (2 * k + 3) (r42) (nd) (nd2_46) := wE_ag (by omega) (Sg_fr hF105 (by decide)) (Ag_pf hQ106 (by omega)) a80
                have bnd2_102 : (0 : Int) ≤ nd2_102 ∧ nd2_102 ≤ 6999 := e107 ▸ hW104.1 31
                refine .inr ⟨_, rfl, ?_⟩
                refine jx_rt (v := some (.int (i32 (nd2_46)))) rfl rfl rfl rfl rfl rfl ?_
                have z116 := tz_f (tk2_47)
                exact ⟨_, _, _, at2_43, fk2_44, op2_45, nd2_102, tk2_47, ec2_103, rfl, rfl, hW104, hF113, hP114, by omega, ((hF105.1 10 rfl).trans (e53)), ((hF105.1 16 rfl).trans (e54)), ((hF105.1 15 rfl).trans (e55)), (e107), ((hF105.1 11 rfl).trans (e57)), e108, by omega, by omega, by omega, by omega, by omega, by omega, by first | exact Or.inr (Or.inr ((⟨by omega, by omega, by omega, (wE_one p111 (by omega) (by omega) (by omega) (wE_mono (by omega) (by omega) (by omega) sf115)), by omega⟩)))⟩
          · have _q : True := trivial
            refine jx_if_eq (pc' := 36) (tg := 40) rfl rfl rfl (by decide) (by decide) (fun h117 => ?_) (fun h117 => ?_)
            · have _q := h117
              refine jx_ar (pc' := 42) (st' := [.int (i32 (6))]) rfl rfl rfl rfl ?_
              refine jx_ld (pc' := 43) (l' := jSto1 [(0, .ref 66)] 1 (.int (i32 (6)))) (st' := []) rfl rfl ?_
              obtain ⟨L118, eL118⟩ : ∃ q, q = jSto1 [(0, .ref 66)] 1 (.int (i32 (6))) := ⟨_, rfl⟩
              rw [← eL118]
              have gL118_0 : jGet L118 0 = some (.ref 66) := eL118 ▸ jg_ne (by decide) (rfl : jGet [(0, .ref 66)] 0 = some (.ref 66)) rfl
              have gL118_1 : jGet L118 1 = some (.int (i32 (6))) := eL118 ▸ jg_eq
              refine jx_ld (pc' := 44) (l' := L118) (st' := [.ref 66]) rfl (jl_aloadn gL118_0) ?_
              refine jx_vr (pc' := 47) (as := []) (st := []) rfl rfl rfl rfl ⟨rfl, rfl, Nat.le_of_ble_eq_true rfl⟩ rfl rfl (c_next (dd := d) (hd := by omega) (hW := hW)  (ln := ln) (e_ln := show G 9 = ln from (e_ln)) (le := le) (e_le := show A 4 (ln).toNat = le from (e_le)) (at0 := at0) (e_at0 := show G 10 = at0 from (e_at0))    (p_0 := by omega)) (fun o V' hq => ?_)
              obtain ⟨G119, A120, at2_121, tk2_122, rfl, rfl, hW123, hF124, e125, e126, p127, p128, p129, -⟩ := hq
              have hF131 := Fr_tr hF0 hF124 (Fr_sub (by decide)) (Fr_sub (by decide))
              have hP132 := Pf_f hP0 hF124 (by decide)
              have ec133 : ecn A120 (G119 31) = ec := (ecn_f (hF124.2 15 rfl) (hF124.1 31 rfl)).trans e_ec
              have bat2_121 : (0 : Int) ≤ at2_121 ∧ at2_121 ≤ 3002 := e125 ▸ hW123.1 10
              have ztk2_122 := tz_b tk2_122
              have btk2_122 : (0 : Int) ≤ tk2_122 ∧ tk2_122 ≤ 5 := e126 ▸ hW123.1 11
              refine .inl ⟨rfl, ?_⟩
              refine jx_ld (pc' := 48) (l' := L118) (st' := [.ref 66]) rfl (jl_aloadn gL118_0) ?_
              refine jx_vr (pc' := 51) (as := []) (st := []) rfl rfl rfl rfl ⟨rfl, rfl, Nat.le_of_ble_eq_true rfl⟩ rfl rfl (c_readOperand_w (dd := d) (hE := hE) (hd := by omega) (hW := hW123)  (ln := ln) (e_ln := show G119 9 = ln from ((hF124.1 9 rfl).trans (e_ln))) (le := le) (e_le := show A120 4 (ln).toNat = le from (congrFun (hF124.2 4 rfl) _).trans (e_le)) (at0 := at2_121) (e_at0 := show G119 10 = at2_121 from (e125)) (fk := fk) (e_fk := show G119 16 = fk from ((hF124.1 16 rfl).trans (e_fk))) (op0 := op0) (e_op0 := show G119 15 = op0 from ((hF124.1 15 rfl).trans (e_op0))) (nd := nd) (e_nd := show G119 31 = nd from ((hF124.1 31 rfl).trans (e_nd))) (tk0 := tk2_122) (e_tk0 := show G119 11 = tk2_122 from (e126)) (ec := ec) (e_ec := show ecn A120 (G119 31) = ec from ec133) (i_SV := (SV_ext ((hF124.1 29 rfl)) ((hF124.2 14 rfl)) i_SV))   (p_0 := by omega) (p_1 := by omega) (p_2 := by omega) (p_3 := by omega) (p_4 := by omega) (p_5 := by omega)) (fun o V' hq => ?_)
              obtain ⟨G134, A135, r136, at2_137, fk2_138, op2_139, nd2_140, tk2_141, ec2_142, rfl, rfl, hW143, hF144, hQ145, b146, e147, e148, e149, e150, e151, e152, p153, p154, p155, p156, p157, p158, q159⟩ := hq
              have hF160 := Fr_tr hF131 hF144 (Fr_sub (by decide)) (Fr_sub (by decide))
              have hP161 := Pf_tr hP132 hQ145 (by omega)
              have bat2_137 : (0 : Int) ≤ at2_137 ∧ at2_137 ≤ 3002 := e147 ▸ hW143.1 10
              have bfk2_138 : (0 : Int) ≤ fk2_138 ∧ fk2_138 ≤ 6 := e148 ▸ hW143.1 16
              have bop2_139 : (-2147483648 : Int) ≤ op2_139 ∧ op2_139 ≤ 2147483647 := e149 ▸ hW143.1 15
              have bnd2_140 : (0 : Int) ≤ nd2_140 ∧ nd2_140 ≤ 6999 := e150 ▸ hW143.1 31
              have ztk2_141 := tz_b tk2_141
              have btk2_141 : (0 : Int) ≤ tk2_141 ∧ tk2_141 ≤ 5 := e151 ▸ hW143.1 11
              refine .inr ⟨_, rfl, ?_⟩
              rcases q159 with ⟨a162, a163, a164, a165, a166, a167⟩ | ⟨a168, a169, a170⟩ | ⟨a171, a172, a173, a174, a175⟩
              · have _q : True := trivial
                exfalso
                omega
              · have _q : True := trivial
                refine jx_ld (pc' := 52) (l' := jSto1 L118 2 (.int (i32 (r136)))) (st' := []) rfl rfl ?_
                obtain ⟨L176, eL176⟩ : ∃ q, q = jSto1 L118 2 (.int (i32 (r136))) := ⟨_, rfl⟩
                rw [← eL176]
                have gL176_0 : jGet L176 0 = some (.ref 66) := eL176 ▸ jg_ne (by decide) gL118_0 rfl
                have gL176_1 : jGet L176 1 = some (.int (i32 (6))) := eL176 ▸ jg_ne (by decide) gL118_1 rfl
                have gL176_2 : jGet L176 2 = some (.int (i32 (r136))) := eL176 ▸ jg_eq
                refine jx_ld (pc' := 53) (l' := L176) (st' := [.ref 66]) rfl (jl_aloadn gL176_0) ?_
                refine jx_ld (pc' := 54) (l' := L176) (st' := [.int (i32 (6)), .ref 66]) rfl (jl_iloadn gL176_1) ?_
                refine jx_ld (pc' := 55) (l' := L176) (st' := [.int (i32 (r136)), .int (i32 (6)), .ref 66]) rfl (jl_iloadn gL176_2) ?_
                refine jx_ar (pc' := 56) (st' := [.int (i32 (0)), .int (i32 (r136)), .int (i32 (6)), .ref 66]) rfl rfl rfl rfl ?_
                refine jx_ar (pc' := 57) (st' := [.int (i32 (0)), .int (i32 (0)), .int (i32 (r136)), .int (i32 (6)), .ref 66]) rfl rfl rfl rfl ?_
                refine jx_ar (pc' := 58) (st' := [.int (i32 (0)), .int (i32 (0)), .int (i32 (0)), .int (i32 (r136)), .int (i32 (6)), .ref 66]) rfl rfl rfl rfl ?_
                refine jx_vr (pc' := 61) (as := [.int (i32 (6)), .int (i32 (r136)), .int (i32 (0)), .int (i32 (0)), .int (i32 (0))]) (st := []) rfl rfl rfl rfl ⟨rfl, rfl, Nat.le_of_ble_eq_true rfl⟩ rfl rfl (c_node_o (dd := d) (hd := by omega) (hW := hW143) (kind := 6) (a := r136) (b := 0) (c := 0) (e := 0) (nd := nd2_140) (e_nd := show G134 31 = nd2_140 from (e150)) (ec := ec2_142) (e_ec := show ecn A135 (G134 31) = ec2_142 from e152)  (h_kind := ⟨(by decide), (by decide)⟩) (h_a := ⟨(Int.le_trans (by decide : (-2147483648 : Int) ≤ -2147483648) b146.1), (Int.le_trans b146.2 (by decide : (2147483647 : Int) ≤ 2147483647))⟩) (h_b := ⟨(by decide), (by decide)⟩) (h_c := ⟨(by decide), (by decide)⟩) (h_e := ⟨(by decide), (by decide)⟩)  (p_0 := by omega) (p_1 := by omega) (p_2 := by omega)) (fun o V' hq => ?_)
                obtain ⟨G177, A178, nd2_179, ec2_180, rfl, rfl, hW181, hF182, hQ183, e184, e185, p186, p187, p188, -⟩ := hq
                have hF190 := Fr_tr hF160 hF182 (Fr_sub (by decide)) (Fr_sub (by decide))
                have hP191 := Pf_tr hP161 hQ183 (by omega)
                have bnd2_179 : (0 : Int) ≤ nd2_179 ∧ nd2_179 ≤ 6999 := e184 ▸ hW181.1 31
                refine .inr ⟨_, rfl, ?_⟩
                refine jx_rt (v := some (.int (i32 (nd2_140)))) rfl rfl rfl rfl rfl rfl ?_
                have z192 := tz_f (tk2_141)
                exact ⟨_, _, _, at2_137, fk2_138, op2_139, nd2_179, tk2_141, ec2_180, rfl, rfl, hW181, hF190, hP191, by omega, ((hF182.1 10 rfl).trans (e147)), ((hF182.1 16 rfl).trans (e148)), ((hF182.1 15 rfl).trans (e149)), (e184), ((hF182.1 11 rfl).trans (e151)), e185, by omega, by omega, by omega, by omega, by omega, by omega, by first | exact Or.inr (Or.inl (⟨by omega, by omega, by omega⟩))⟩
              · have _q : True := trivial
                refine jx_ld (pc' := 52) (l' := jSto1 L118 2 (.int (i32 (r136)))) (st' := []) rfl rfl ?_
                obtain ⟨L193, eL193⟩ : ∃ q, q = jSto1 L118 2 (.int (i32 (r136))) := ⟨_, rfl⟩
                rw [← eL193]
                have gL193_0 : jGet L193 0 = some (.ref 66) := eL193 ▸ jg_ne (by decide) gL118_0 rfl
                have gL193_1 : jGet L193 1 = some (.int (i32 (6))) := eL193 ▸ jg_ne (by decide) gL118_1 rfl
                have gL193_2 : jGet L193 2 = some (.int (i32 (r136))) := eL193 ▸ jg_eq
                refine jx_ld (pc' := 53) (l' := L193) (st' := [.ref 66]) rfl (jl_aloadn gL193_0) ?_
                refine jx_ld (pc' := 54) (l' := L193) (st' := [.int (i32 (6)), .ref 66]) rfl (jl_iloadn gL193_1) ?_
                refine jx_ld (pc' := 55) (l' := L193) (st' := [.int (i32 (r136)), .int (i32 (6)), .ref 66]) rfl (jl_iloadn gL193_2) ?_
                refine jx_ar (pc' := 56) (st' := [.int (i32 (0)), .int (i32 (r136)), .int (i32 (6)), .ref 66]) rfl rfl rfl rfl ?_
                refine jx_ar (pc' := 57) (st' := [.int (i32 (0)), .int (i32 (0)), .int (i32 (r136)), .int (i32 (6)), .ref 66]) rfl rfl rfl rfl ?_
                refine jx_ar (pc' := 58) (st' := [.int (i32 (0)), .int (i32 (0)), .int (i32 (0)), .int (i32 (r136)), .int (i32 (6)), .ref 66]) rfl rfl rfl rfl ?_
                refine jx_vr (pc' := 61) (as := [.int (i32 (6)), .int (i32 (r136)), .int (i32 (0)), .int (i32 (0)), .int (i32 (0))]) (st := []) rfl rfl rfl rfl ⟨rfl, rfl, Nat.le_of_ble_eq_true rfl⟩ rfl rfl (c_node_o (dd := d) (hd := by omega) (hW := hW143) (kind := 6) (a := r136) (b := 0) (c := 0) (e := 0) (nd := nd2_140) (e_nd := show G134 31 = nd2_140 from (e150)) (ec := ec2_142) (e_ec := show ecn A135 (G134 31) = ec2_142 from e152)  (h_kind := ⟨(by decide), (by decide)⟩) (h_a := ⟨(Int.le_trans (by decide : (-2147483648 : Int) ≤ -2147483648) b146.1), (Int.le_trans b146.2 (by decide : (2147483647 : Int) ≤ 2147483647))⟩) (h_b := ⟨(by decide), (by decide)⟩) (h_c := ⟨(by decide), (by decide)⟩) (h_e := ⟨(by decide), (by decide)⟩)  (p_0 := by omega) (p_1 := by omega) (p_2 := by omega)) (fun o V' hq => ?_)
                obtain ⟨G194, A195, nd2_196, ec2_197, rfl, rfl, hW198, hF199, hQ200, e201, e202, p203, p204, p205, -⟩ := hq
                have hF207 := Fr_tr hF160 hF199 (Fr_sub (by decide)) (Fr_sub (by decide))
                have hP208 := Pf_tr hP161 hQ200 (by omega)
                have sf209 : wE A195 Vs sb (2 * k + 3) (r136) (nd) (nd2_140) := wE_ag (by omega) (Sg_fr hF199 (by decide)) (Ag_pf hQ200 (by omega)) a174
                have bnd2_196 : (0 : Int) ≤ nd2_196 ∧ nd2_196 ≤ 6999 := e201 ▸ hW198.1 31
                refine .inr ⟨_, rfl, ?_⟩
                refine jx_rt (v := some (.int (i32 (nd2_140)))) rfl rfl rfl rfl rfl rfl ?_
                have z210 := tz_f (tk2_141)
                exact ⟨_, _, _, at2_137, fk2_138, op2_139, nd2_196, tk2_141, ec2_197, rfl, rfl, hW198, hF207, hP208, by omega, ((hF199.1 10 rfl).trans (e147)), ((hF199.1 16 rfl).trans (e148)), ((hF199.1 15 rfl).trans (e149)), (e201), ((hF199.1 11 rfl).trans (e151)), e202, by omega, by omega, by omega, by omega, by omega, by omega, by first | exact Or.inr (Or.inr ((⟨by omega, by omega, by omega, (wE_one p205 (by omega) (by omega) (by omega) (wE_mono (by omega) (by omega) (by omega) sf209)), by omega⟩)))⟩
            · have _q := h117
              exact absurd h117 (by omega)
        · have _q := h16
          exact absurd h16 (by omega)
      · have _q : True := trivial
        refine jx_if_ne (pc' := 18) (tg := 27) rfl rfl rfl (by decide) (by decide) (fun h211 => ?_) (fun h211 => ?_)
        · have _q := h211
          exact absurd h211 (by omega)
        · have _q := h211
          refine jx_ld (pc' := 19) (l' := [(0, .ref 66)]) (st' := [.ref 66]) rfl (jl_aloadn rfl) ?_
          refine jx_ar (pc' := 21) (st' := [.int (i32 (16)), .ref 66]) rfl rfl rfl rfl ?_
          refine jx_vr (pc' := 24) (as := [.int (i32 (16))]) (st := []) rfl rfl rfl rfl ⟨rfl, rfl, Nat.le_of_ble_eq_true rfl⟩ rfl rfl (c_isKey (dd := d) (hd := by omega) (hW := hW) (k := 16) (tk := tk0) (e_tk := show G 11 = tk0 from (e_tk0)) (tn := G 13) (e_tn := show G 13 = G 13 from rfl)  (h_k := ⟨(by decide), (by decide)⟩)  ) (fun o V' hq => ?_)
          obtain ⟨r212, rfl, rfl, b213, q214⟩ := hq
          refine .inr ⟨_, rfl, ?_⟩
          rcases q214 with ⟨rfl, a215, a216, a217⟩ | rfl
          · have _q : True := trivial
            refine jx_if_eq (pc' := 27) (tg := 62) rfl rfl rfl (by decide) (by decide) (fun h218 => ?_) (fun h218 => ?_)
            · have _q := h218
              exact absurd h218 (by omega)
            · have _q := h218
              refine jx_ld (pc' := 28) (l' := [(0, .ref 66)]) (st' := [.ref 66]) rfl (jl_aloadn rfl) ?_
              refine jx_ar (pc' := 30) (st' := [.int (i32 (45)), .ref 66]) rfl rfl rfl rfl ?_
              refine jx_vr (pc' := 33) (as := [.int (i32 (45))]) (st := []) rfl rfl rfl rfl ⟨rfl, rfl, Nat.le_of_ble_eq_true rfl⟩ rfl rfl (c_is (dd := d) (hd := by omega) (hW := hW) (k := 45) (tk := tk0) (e_tk := show G 11 = tk0 from (e_tk0)) (tn := G 13) (e_tn := show G 13 = G 13 from rfl)  (h_k := ⟨(by decide), (by decide)⟩)  ) (fun o V' hq => ?_)
              obtain ⟨r219, rfl, rfl, b220, q221⟩ := hq
              refine .inr ⟨_, rfl, ?_⟩
              rcases q221 with ⟨rfl, a222, a223, a224⟩ | rfl
              · have _q : True := trivial
                refine jx_if_eq (pc' := 36) (tg := 40) rfl rfl rfl (by decide) (by decide) (fun h225 => ?_) (fun h225 => ?_)
                · have _q := h225
                  exact absurd h225 (by omega)
                · have _q := h225
                  refine jx_ar (pc' := 37) (st' := [.int (i32 (5))]) rfl rfl rfl rfl ?_
                  refine jx_go (tg := 42) rfl rfl ?_
                  refine jx_ld (pc' := 43) (l' := jSto1 [(0, .ref 66)] 1 (.int (i32 (5)))) (st' := []) rfl rfl ?_
                  obtain ⟨L226, eL226⟩ : ∃ q, q = jSto1 [(0, .ref 66)] 1 (.int (i32 (5))) := ⟨_, rfl⟩
                  rw [← eL226]
                  have gL226_0 : jGet L226 0 = some (.ref 66) := eL226 ▸ jg_ne (by decide) (rfl : jGet [(0, .ref 66)] 0 = some (.ref 66)) rfl
                  have gL226_1 : jGet L226 1 = some (.int (i32 (5))) := eL226 ▸ jg_eq
                  refine jx_ld (pc' := 44) (l' := L226) (st' := [.ref 66]) rfl (jl_aloadn gL226_0) ?_
                  refine jx_vr (pc' := 47) (as := []) (st := []) rfl rfl rfl rfl ⟨rfl, rfl, Nat.le_of_ble_eq_true rfl⟩ rfl rfl (c_next (dd := d) (hd := by omega) (hW := hW)  (ln := ln) (e_ln := show G 9 = ln from (e_ln)) (le := le) (e_le := show A 4 (ln).toNat = le from (e_le)) (at0 := at0) (e_at0 := show G 10 = at0 from (e_at0))    (p_0 := by omega)) (fun o V' hq => ?_)
                  obtain ⟨G227, A228, at2_229, tk2_230, rfl, rfl, hW231, hF232, e233, e234, p235, p236, p237, -⟩ := hq
                  have hF239 := Fr_tr hF0 hF232 (Fr_sub (by decide)) (Fr_sub (by decide))
                  have hP240 := Pf_f hP0 hF232 (by decide)
                  have ec241 : ecn A228 (G227 31) = ec := (ecn_f (hF232.2 15 rfl) (hF232.1 31 rfl)).trans e_ec
                  have bat2_229 : (0 : Int) ≤ at2_229 ∧ at2_229 ≤ 3002 := e233 ▸ hW231.1 10
                  have ztk2_230 := tz_b tk2_230
                  have btk2_230 : (0 : Int) ≤ tk2_230 ∧ tk2_230 ≤ 5 := e234 ▸ hW231.1 11
                  refine .inl ⟨rfl, ?_⟩
                  refine jx_ld (pc' := 48) (l' := L226) (st' := [.ref 66]) rfl (jl_aloadn gL226_0) ?_
                  refine jx_vr (pc' := 51) (as := []) (st := []) rfl rfl rfl rfl ⟨rfl, rfl, Nat.le_of_ble_eq_true rfl⟩ rfl rfl (c_readOperand_w (dd := d) (hE := hE) (hd := by omega) (hW := hW231)  (ln := ln) (e_ln := show G227 9 = ln from ((hF232.1 9 rfl).trans (e_ln))) (le := le) (e_le := show A228 4 (ln).toNat = le from (congrFun (hF232.2 4 rfl) _).trans (e_le)) (at0 := at2_229) (e_at0 := show G227 10 = at2_229 from (e233)) (fk := fk) (e_fk := show G227 16 = fk from ((hF232.1 16 rfl).trans (e_fk))) (op0 := op0) (e_op0 := show G227 15 = op0 from ((hF232.1 15 rfl).trans (e_op0))) (nd := nd) (e_nd := show G227 31 = nd from ((hF232.1 31 rfl).trans (e_nd))) (tk0 := tk2_230) (e_tk0 := show G227 11 = tk2_230 from (e234)) (ec := ec) (e_ec := show ecn A228 (G227 31) = ec from ec241) (i_SV := (SV_ext ((hF232.1 29 rfl)) ((hF232.2 14 rfl)) i_SV))   (p_0 := by omega) (p_1 := by omega) (p_2 := by omega) (p_3 := by omega) (p_4 := by omega) (p_5 := by omega)) (fun o V' hq => ?_)
                  obtain ⟨G242, A243, r244, at2_245, fk2_246, op2_247, nd2_248, tk2_249, ec2_250, rfl, rfl, hW251, hF252, hQ253, b254, e255, e256, e257, e258, e259, e260, p261, p262, p263, p264, p265, p266, q267⟩ := hq
                  have hF268 := Fr_tr hF239 hF252 (Fr_sub (by decide)) (Fr_sub (by decide))
                  have hP269 := Pf_tr hP240 hQ253 (by omega)
                  have bat2_245 : (0 : Int) ≤ at2_245 ∧ at2_245 ≤ 3002 := e255 ▸ hW251.1 10
                  have bfk2_246 : (0 : Int) ≤ fk2_246 ∧ fk2_246 ≤ 6 := e256 ▸ hW251.1 16
                  have bop2_247 : (-2147483648 : Int) ≤ op2_247 ∧ op2_247 ≤ 2147483647 := e257 ▸ hW251.1 15
                  have bnd2_248 : (0 : Int) ≤ nd2_248 ∧ nd2_248 ≤ 6999 := e258 ▸ hW251.1 31
                  have ztk2_249 := tz_b tk2_249
                  have btk2_249 : (0 : Int) ≤ tk2_249 ∧ tk2_249 ≤ 5 := e259 ▸ hW251.1 11
                  refine .inr ⟨_, rfl, ?_⟩
                  rcases q267 with ⟨a270, a271, a272, a273, a274, a275⟩ | ⟨a276, a277, a278⟩ | ⟨a279, a280, a281, a282, a283⟩
                  · have _q : True := trivial
                    exfalso
                    omega
                  · have _q : True := trivial
                    refine jx_ld (pc' := 52) (l' := jSto1 L226 2 (.int (i32 (r244)))) (st' := []) rfl rfl ?_
                    obtain ⟨L284, eL284⟩ : ∃ q, q = jSto1 L226 2 (.int (i32 (r244))) := ⟨_, rfl⟩
                    rw [← eL284]
                    have gL284_0 : jGet L284 0 = some (.ref 66) := eL284 ▸ jg_ne (by decide) gL226_0 rfl
                    have gL284_1 : jGet L284 1 = some (.int (i32 (5))) := eL284 ▸ jg_ne (by decide) gL226_1 rfl
                    have gL284_2 : jGet L284 2 = some (.int (i32 (r244))) := eL284 ▸ jg_eq
                    refine jx_ld (pc' := 53) (l' := L284) (st' := [.ref 66]) rfl (jl_aloadn gL284_0) ?_
                    refine jx_ld (pc' := 54) (l' := L284) (st' := [.int (i32 (5)), .ref 66]) rfl (jl_iloadn gL284_1) ?_
                    refine jx_ld (pc' := 55) (l' := L284) (st' := [.int (i32 (r244)), .int (i32 (5)), .ref 66]) rfl (jl_iloadn gL284_2) ?_
                    refine jx_ar (pc' := 56) (st' := [.int (i32 (0)), .int (i32 (r244)), .int (i32 (5)), .ref 66]) rfl rfl rfl rfl ?_
                    refine jx_ar (pc' := 57) (st' := [.int (i32 (0)), .int (i32 (0)), .int (i32 (r244)), .int (i32 (5)), .ref 66]) rfl rfl rfl rfl ?_
                    refine jx_ar (pc' := 58) (st' := [.int (i32 (0)), .int (i32 (0)), .int (i32 (0)), .int (i32 (r244)), .int (i32 (5)), .ref 66]) rfl rfl rfl rfl ?_
                    refine jx_vr (pc' := 61) (as := [.int (i32 (5)), .int (i32 (r244)), .int (i32 (0)), .int (i32 (0)), .int (i32 (0))]) (st := []) rfl rfl rfl rfl ⟨rfl, rfl, Nat.le_of_ble_eq_true rfl⟩ rfl rfl (c_node_o (dd := d) (hd := by omega) (hW := hW251) (kind := 5) (a := r244) (b := 0) (c := 0) (e := 0) (nd := nd2_248) (e_nd := show G242 31 = nd2_248 from (e258)) (ec := ec2_250) (e_ec := show ecn A243 (G242 31) = ec2_250 from e260)  (h_kind := ⟨(by decide), (by decide)⟩) (h_a := ⟨(Int.le_trans (by decide : (-2147483648 : Int) ≤ -2147483648) b254.1), (Int.le_trans b254.2 (by decide : (2147483647 : Int) ≤ 2147483647))⟩) (h_b := ⟨(by decide), (by decide)⟩) (h_c := ⟨(by decide), (by decide)⟩) (h_e := ⟨(by decide), (by decide)⟩)  (p_0 := by omega) (p_1 := by omega) (p_2 := by omega)) (fun o V' hq => ?_)
                    obtain ⟨G285, A286, nd2_287, ec2_288, rfl, rfl, hW289, hF290, hQ291, e292, e293, p294, p295, p296, -⟩ := hq
                    have hF298 := Fr_tr hF268 hF290 (Fr_sub (by decide)) (Fr_sub (by decide))
                    have hP299 := Pf_tr hP269 hQ291 (by omega)
                    have bnd2_287 : (0 : Int) ≤ nd2_287 ∧ nd2_287 ≤ 6999 := e292 ▸ hW289.1 31
                    refine .inr ⟨_, rfl, ?_⟩
                    refine jx_rt (v := some (.int (i32 (nd2_248)))) rfl rfl rfl rfl rfl rfl ?_
                    have z300 := tz_f (tk2_249)
                    exact ⟨_, _, _, at2_245, fk2_246, op2_247, nd2_287, tk2_249, ec2_288, rfl, rfl, hW289, hF298, hP299, by omega, ((hF290.1 10 rfl).trans (e255)), ((hF290.1 16 rfl).trans (e256)), ((hF290.1 15 rfl).trans (e257)), (e292), ((hF290.1 11 rfl).trans (e259)), e293, by omega, by omega, by omega, by omega, by omega, by omega, by first | exact Or.inr (Or.inl (⟨by omega, by omega, by omega⟩))⟩
                  · have _q : True := trivial
                    refine jx_ld (pc' := 52) (l' := jSto1 L226 2 (.int (i32 (r244)))) (st' := []) rfl rfl ?_
                    obtain ⟨L301, eL301⟩ : ∃ q, q = jSto1 L226 2 (.int (i32 (r244))) := ⟨_, rfl⟩
                    rw [← eL301]
                    have gL301_0 : jGet L301 0 = some (.ref 66) := eL301 ▸ jg_ne (by decide) gL226_0 rfl
                    have gL301_1 : jGet L301 1 = some (.int (i32 (5))) := eL301 ▸ jg_ne (by decide) gL226_1 rfl
                    have gL301_2 : jGet L301 2 = some (.int (i32 (r244))) := eL301 ▸ jg_eq
                    refine jx_ld (pc' := 53) (l' := L301) (st' := [.ref 66]) rfl (jl_aloadn gL301_0) ?_
                    refine jx_ld (pc' := 54) (l' := L301) (st' := [.int (i32 (5)), .ref 66]) rfl (jl_iloadn gL301_1) ?_
                    refine jx_ld (pc' := 55) (l' := L301) (st' := [.int (i32 (r244)), .int (i32 (5)), .ref 66]) rfl (jl_iloadn gL301_2) ?_
                    refine jx_ar (pc' := 56) (st' := [.int (i32 (0)), .int (i32 (r244)), .int (i32 (5)), .ref 66]) rfl rfl rfl rfl ?_
                    refine jx_ar (pc' := 57) (st' := [.int (i32 (0)), .int (i32 (0)), .int (i32 (r244)), .int (i32 (5)), .ref 66]) rfl rfl rfl rfl ?_
                    refine jx_ar (pc' := 58) (st' := [.int (i32 (0)), .int (i32 (0)), .int (i32 (0)), .int (i32 (r244)), .int (i32 (5)), .ref 66]) rfl rfl rfl rfl ?_
                    refine jx_vr (pc' := 61) (as := [.int (i32 (5)), .int (i32 (r244)), .int (i32 (0)), .int (i32 (0)), .int (i32 (0))]) (st := []) rfl rfl rfl rfl ⟨rfl, rfl, Nat.le_of_ble_eq_true rfl⟩ rfl rfl (c_node_o (dd := d) (hd := by omega) (hW := hW251) (kind := 5) (a := r244) (b := 0) (c := 0) (e := 0) (nd := nd2_248) (e_nd := show G242 31 = nd2_248 from (e258)) (ec := ec2_250) (e_ec := show ecn A243 (G242 31) = ec2_250 from e260)  (h_kind := ⟨(by decide), (by decide)⟩) (h_a := ⟨(Int.le_trans (by decide : (-2147483648 : Int) ≤ -2147483648) b254.1), (Int.le_trans b254.2 (by decide : (2147483647 : Int) ≤ 2147483647))⟩) (h_b := ⟨(by decide), (by decide)⟩) (h_c := ⟨(by decide), (by decide)⟩) (h_e := ⟨(by decide), (by decide)⟩)  (p_0 := by omega) (p_1 := by omega) (p_2 := by omega)) (fun o V' hq => ?_)
                    obtain ⟨G302, A303, nd2_304, ec2_305, rfl, rfl, hW306, hF307, hQ308, e309, e310, p311, p312, p313, -⟩ := hq
                    have hF315 := Fr_tr hF268 hF307 (Fr_sub (by decide)) (Fr_sub (by decide))
                    have hP316 := Pf_tr hP269 hQ308 (by omega)
                    have sf317 : wE A303 Vs sb (2 * k + 3) (r244) (nd) (nd2_248) := wE_ag (by omega) (Sg_fr hF307 (by decide)) (Ag_pf hQ308 (by omega)) a282
                    have bnd2_304 : (0 : Int) ≤ nd2_304 ∧ nd2_304 ≤ 6999 := e309 ▸ hW306.1 31
                    refine .inr ⟨_, rfl, ?_⟩
                    refine jx_rt (v := some (.int (i32 (nd2_248)))) rfl rfl rfl rfl rfl rfl ?_
                    have z318 := tz_f (tk2_249)
                    exact ⟨_, _, _, at2_245, fk2_246, op2_247, nd2_304, tk2_249, ec2_305, rfl, rfl, hW306, hF315, hP316, by omega, ((hF307.1 10 rfl).trans (e255)), ((hF307.1 16 rfl).trans (e256)), ((hF307.1 15 rfl).trans (e257)), (e309), ((hF307.1 11 rfl).trans (e259)), e310, by omega, by omega, by omega, by omega, by omega, by omega, by first | exact Or.inr (Or.inr ((⟨by omega, by omega, by omega, (wE_one p313 (by omega) (by omega) (by omega) (wE_mono (by omega) (by omega) (by omega) sf317)), by omega⟩)))⟩
              · have _q : True := trivial
                refine jx_if_eq (pc' := 36) (tg := 40) rfl rfl rfl (by decide) (by decide) (fun h319 => ?_) (fun h319 => ?_)
                · have _q := h319
                  refine jx_ar (pc' := 42) (st' := [.int (i32 (6))]) rfl rfl rfl rfl ?_
                  refine jx_ld (pc' := 43) (l' := jSto1 [(0, .ref 66)] 1 (.int (i32 (6)))) (st' := []) rfl rfl ?_
                  obtain ⟨L320, eL320⟩ : ∃ q, q = jSto1 [(0, .ref 66)] 1 (.int (i32 (6))) := ⟨_, rfl⟩
                  rw [← eL320]
                  have gL320_0 : jGet L320 0 = some (.ref 66) := eL320 ▸ jg_ne (by decide) (rfl : jGet [(0, .ref 66)] 0 = some (.ref 66)) rfl
                  have gL320_1 : jGet L320 1 = some (.int (i32 (6))) := eL320 ▸ jg_eq
                  refine jx_ld (pc' := 44) (l' := L320) (st' := [.ref 66]) rfl (jl_aloadn gL320_0) ?_
                  refine jx_vr (pc' := 47) (as := []) (st := []) rfl rfl rfl rfl ⟨rfl, rfl, Nat.le_of_ble_eq_true rfl⟩ rfl rfl (c_next (dd := d) (hd := by omega) (hW := hW)  (ln := ln) (e_ln := show G 9 = ln from (e_ln)) (le := le) (e_le := show A 4 (ln).toNat = le from (e_le)) (at0 := at0) (e_at0 := show G 10 = at0 from (e_at0))    (p_0 := by omega)) (fun o V' hq => ?_)
                  obtain ⟨G321, A322, at2_323, tk2_324, rfl, rfl, hW325, hF326, e327, e328, p329, p330, p331, -⟩ := hq
                  have hF333 := Fr_tr hF0 hF326 (Fr_sub (by decide)) (Fr_sub (by decide))
                  have hP334 := Pf_f hP0 hF326 (by decide)
                  have ec335 : ecn A322 (G321 31) = ec := (ecn_f (hF326.2 15 rfl) (hF326.1 31 rfl)).trans e_ec
                  have bat2_323 : (0 : Int) ≤ at2_323 ∧ at2_323 ≤ 3002 := e327 ▸ hW325.1 10
                  have ztk2_324 := tz_b tk2_324
                  have btk2_324 : (0 : Int) ≤ tk2_324 ∧ tk2_324 ≤ 5 := e328 ▸ hW325.1 11
                  refine .inl ⟨rfl, ?_⟩
                  refine jx_ld (pc' := 48) (l' := L320) (st' := [.ref 66]) rfl (jl_aloadn gL320_0) ?_
                  refine jx_vr (pc' := 51) (as := []) (st := []) rfl rfl rfl rfl ⟨rfl, rfl, Nat.le_of_ble_eq_true rfl⟩ rfl rfl (c_readOperand_w (dd := d) (hE := hE) (hd := by omega) (hW := hW325)  (ln := ln) (e_ln := show G321 9 = ln from ((hF326.1 9 rfl).trans (e_ln))) (le := le) (e_le := show A322 4 (ln).toNat = le from (congrFun (hF326.2 4 rfl) _).trans (e_le)) (at0 := at2_323) (e_at0 := show G321 10 = at2_323 from (e327)) (fk := fk) (e_fk := show G321 16 = fk from ((hF326.1 16 rfl).trans (e_fk))) (op0 := op0) (e_op0 := show G321 15 = op0 from ((hF326.1 15 rfl).trans (e_op0))) (nd := nd) (e_nd := show G321 31 = nd from ((hF326.1 31 rfl).trans (e_nd))) (tk0 := tk2_324) (e_tk0 := show G321 11 = tk2_324 from (e328)) (ec := ec) (e_ec := show ecn A322 (G321 31) = ec from ec335) (i_SV := (SV_ext ((hF326.1 29 rfl)) ((hF326.2 14 rfl)) i_SV))   (p_0 := by omega) (p_1 := by omega) (p_2 := by omega) (p_3 := by omega) (p_4 := by omega) (p_5 := by omega)) (fun o V' hq => ?_)
                  obtain ⟨G336, A337, r338, at2_339, fk2_340, op2_341, nd2_342, tk2_343, ec2_344, rfl, rfl, hW345, hF346, hQ347, b348, e349, e350, e351, e352, e353, e354, p355, p356, p357, p358, p359, p360, q361⟩ := hq
                  have hF362 := Fr_tr hF333 hF346 (Fr_sub (by decide)) (Fr_sub (by decide))
                  have hP363 := Pf_tr hP334 hQ347 (by omega)
                  have bat2_339 : (0 : Int) ≤ at2_339 ∧ at2_339 ≤ 3002 := e349 ▸ hW345.1 10
                  have bfk2_340 : (0 : Int) ≤ fk2_340 ∧ fk2_340 ≤ 6 := e350 ▸ hW345.1 16
                  have bop2_341 : (-2147483648 : Int) ≤ op2_341 ∧ op2_341 ≤ 2147483647 := e351 ▸ hW345.1 15
                  have bnd2_342 : (0 : Int) ≤ nd2_342 ∧ nd2_342 ≤ 6999 := e352 ▸ hW345.1 31
                  have ztk2_343 := tz_b tk2_343
                  have btk2_343 : (0 : Int) ≤ tk2_343 ∧ tk2_343 ≤ 5 := e353 ▸ hW345.1 11
                  refine .inr ⟨_, rfl, ?_⟩
                  rcases q361 with ⟨a364, a365, a366, a367, a368, a369⟩ | ⟨a370, a371, a372⟩ | ⟨a373, a374, a375, a376, a377⟩
                  · have _q : True := trivial
                    exfalso
                    omega
                  · have _q : True := trivial
                    refine jx_ld (pc' := 52) (l' := jSto1 L320 2 (.int (i32 (r338)))) (st' := []) rfl rfl ?_
                    obtain ⟨L378, eL378⟩ : ∃ q, q = jSto1 L320 2 (.int (i32 (r338))) := ⟨_, rfl⟩
                    rw [← eL378]
                    have gL378_0 : jGet L378 0 = some (.ref 66) := eL378 ▸ jg_ne (by decide) gL320_0 rfl
                    have gL378_1 : jGet L378 1 = some (.int (i32 (6))) := eL378 ▸ jg_ne (by decide) gL320_1 rfl
                    have gL378_2 : jGet L378 2 = some (.int (i32 (r338))) := eL378 ▸ jg_eq
                    refine jx_ld (pc' := 53) (l' := L378) (st' := [.ref 66]) rfl (jl_aloadn gL378_0) ?_
                    refine jx_ld (pc' := 54) (l' := L378) (st' := [.int (i32 (6)), .ref 66]) rfl (jl_iloadn gL378_1) ?_
                    refine jx_ld (pc' := 55) (l' := L378) (st' := [.int (i32 (r338)), .int (i32 (6)), .ref 66]) rfl (jl_iloadn gL378_2) ?_
                    refine jx_ar (pc' := 56) (st' := [.int (i32 (0)), .int (i32 (r338)), .int (i32 (6)), .ref 66]) rfl rfl rfl rfl ?_
                    refine jx_ar (pc' := 57) (st' := [.int (i32 (0)), .int (i32 (0)), .int (i32 (r338)), .int (i32 (6)), .ref 66]) rfl rfl rfl rfl ?_
                    refine jx_ar (pc' := 58) (st' := [.int (i32 (0)), .int (i32 (0)), .int (i32 (0)), .int (i32 (r338)), .int (i32 (6)), .ref 66]) rfl rfl rfl rfl ?_
                    refine jx_vr (pc' := 61) (as := [.int (i32 (6)), .int (i32 (r338)), .int (i32 (0)), .int (i32 (0)), .int (i32 (0))]) (st := []) rfl rfl rfl rfl ⟨rfl, rfl, Nat.le_of_ble_eq_true rfl⟩ rfl rfl (c_node_o (dd := d) (hd := by omega) (hW := hW345) (kind := 6) (a := r338) (b := 0) (c := 0) (e := 0) (nd := nd2_342) (e_nd := show G336 31 = nd2_342 from (e352)) (ec := ec2_344) (e_ec := show ecn A337 (G336 31) = ec2_344 from e354)  (h_kind := ⟨(by decide), (by decide)⟩) (h_a := ⟨(Int.le_trans (by decide : (-2147483648 : Int) ≤ -2147483648) b348.1), (Int.le_trans b348.2 (by decide : (2147483647 : Int) ≤ 2147483647))⟩) (h_b := ⟨(by decide), (by decide)⟩) (h_c := ⟨(by decide), (by decide)⟩) (h_e := ⟨(by decide), (by decide)⟩)  (p_0 := by omega) (p_1 := by omega) (p_2 := by omega)) (fun o V' hq => ?_)
                    obtain ⟨G379, A380, nd2_381, ec2_382, rfl, rfl, hW383, hF384, hQ385, e386, e387, p388, p389, p390, -⟩ := hq
                    have hF392 := Fr_tr hF362 hF384 (Fr_sub (by decide)) (Fr_sub (by decide))
                    have hP393 := Pf_tr hP363 hQ385 (by omega)
                    have bnd2_381 : (0 : Int) ≤ nd2_381 ∧ nd2_381 ≤ 6999 := e386 ▸ hW383.1 31
                    refine .inr ⟨_, rfl, ?_⟩
                    refine jx_rt (v := some (.int (i32 (nd2_342)))) rfl rfl rfl rfl rfl rfl ?_
                    have z394 := tz_f (tk2_343)
                    exact ⟨_, _, _, at2_339, fk2_340, op2_341, nd2_381, tk2_343, ec2_382, rfl, rfl, hW383, hF392, hP393, by omega, ((hF384.1 10 rfl).trans (e349)), ((hF384.1 16 rfl).trans (e350)), ((hF384.1 15 rfl).trans (e351)), (e386), ((hF384.1 11 rfl).trans (e353)), e387, by omega, by omega, by omega, by omega, by omega, by omega, by first | exact Or.inr (Or.inl (⟨by omega, by omega, by omega⟩))⟩
                  · have _q : True := trivial
                    refine jx_ld (pc' := 52) (l' := jSto1 L320 2 (.int (i32 (r338)))) (st' := []) rfl rfl ?_
                    obtain ⟨L395, eL395⟩ : ∃ q, q = jSto1 L320 2 (.int (i32 (r338))) := ⟨_, rfl⟩
                    rw [← eL395]
                    have gL395_0 : jGet L395 0 = some (.ref 66) := eL395 ▸ jg_ne (by decide) gL320_0 rfl
                    have gL395_1 : jGet L395 1 = some (.int (i32 (6))) := eL395 ▸ jg_ne (by decide) gL320_1 rfl
                    have gL395_2 : jGet L395 2 = some (.int (i32 (r338))) := eL395 ▸ jg_eq
                    refine jx_ld (pc' := 53) (l' := L395) (st' := [.ref 66]) rfl (jl_aloadn gL395_0) ?_
                    refine jx_ld (pc' := 54) (l' := L395) (st' := [.int (i32 (6)), .ref 66]) rfl (jl_iloadn gL395_1) ?_
                    refine jx_ld (pc' := 55) (l' := L395) (st' := [.int (i32 (r338)), .int (i32 (6)), .ref 66]) rfl (jl_iloadn gL395_2) ?_
                    refine jx_ar (pc' := 56) (st' := [.int (i32 (0)), .int (i32 (r338)), .int (i32 (6)), .ref 66]) rfl rfl rfl rfl ?_
                    refine jx_ar (pc' := 57) (st' := [.int (i32 (0)), .int (i32 (0)), .int (i32 (r338)), .int (i32 (6)), .ref 66]) rfl rfl rfl rfl ?_
                    refine jx_ar (pc' := 58) (st' := [.int (i32 (0)), .int (i32 (0)), .int (i32 (0)), .int (i32 (r338)), .int (i32 (6)), .ref 66]) rfl rfl rfl rfl ?_
                    refine jx_vr (pc' := 61) (as := [.int (i32 (6)), .int (i32 (r338)), .int (i32 (0)), .int (i32 (0)), .int (i32 (0))]) (st := []) rfl rfl rfl rfl ⟨rfl, rfl, Nat.le_of_ble_eq_true rfl⟩ rfl rfl (c_node_o (dd := d) (hd := by omega) (hW := hW345) (kind := 6) (a := r338) (b := 0) (c := 0) (e := 0) (nd := nd2_342) (e_nd := show G336 31 = nd2_342 from (e352)) (ec := ec2_344) (e_ec := show ecn A337 (G336 31) = ec2_344 from e354)  (h_kind := ⟨(by decide), (by decide)⟩) (h_a := ⟨(Int.le_trans (by decide : (-2147483648 : Int) ≤ -2147483648) b348.1), (Int.le_trans b348.2 (by decide : (2147483647 : Int) ≤ 2147483647))⟩) (h_b := ⟨(by decide), (by decide)⟩) (h_c := ⟨(by decide), (by decide)⟩) (h_e := ⟨(by decide), (by decide)⟩)  (p_0 := by omega) (p_1 := by omega) (p_2 := by omega)) (fun o V' hq => ?_)
                    obtain ⟨G396, A397, nd2_398, ec2_399, rfl, rfl, hW400, hF401, hQ402, e403, e404, p405, p406, p407, -⟩ := hq
                    have hF409 := Fr_tr hF362 hF401 (Fr_sub (by decide)) (Fr_sub (by decide))
                    have hP410 := Pf_tr hP363 hQ402 (by omega)
                    have sf411 : wE A397 Vs sb (2 * k + 3) (r338) (nd) (nd2_342) := wE_ag (by omega) (Sg_fr hF401 (by decide)) (Ag_pf hQ402 (by omega)) a376
                    have bnd2_398 : (0 : Int) ≤ nd2_398 ∧ nd2_398 ≤ 6999 := e403 ▸ hW400.1 31
                    refine .inr ⟨_, rfl, ?_⟩
                    refine jx_rt (v := some (.int (i32 (nd2_342)))) rfl rfl rfl rfl rfl rfl ?_
                    have z412 := tz_f (tk2_343)
                    exact ⟨_, _, _, at2_339, fk2_340, op2_341, nd2_398, tk2_343, ec2_399, rfl, rfl, hW400, hF409, hP410, by omega, ((hF401.1 10 rfl).trans (e349)), ((hF401.1 16 rfl).trans (e350)), ((hF401.1 15 rfl).trans (e351)), (e403), ((hF401.1 11 rfl).trans (e353)), e404, by omega, by omega, by omega, by omega, by omega, by omega, by first | exact Or.inr (Or.inr ((⟨by omega, by omega, by omega, (wE_one p407 (by omega) (by omega) (by omega) (wE_mono (by omega) (by omega) (by omega) sf411)), by omega⟩)))⟩
                · have _q := h319
                  exact absurd h319 (by omega)
          · have _q : True := trivial
            refine jx_if_eq (pc' := 27) (tg := 62) rfl rfl rfl (by decide) (by decide) (fun h413 => ?_) (fun h413 => ?_)
            · have _q := h413
              refine jx_ld (pc' := 63) (l' := [(0, .ref 66)]) (st' := [.ref 66]) rfl (jl_aloadn rfl) ?_
              refine jx_ld (pc' := 64) (l' := [(0, .ref 66)]) (st' := [.ref 66, .ref 66]) rfl (jl_aloadn rfl) ?_
              refine jx_vr (pc' := 67) (as := []) (st := [.ref 66]) rfl rfl rfl rfl ⟨rfl, rfl, Nat.le_of_ble_eq_true rfl⟩ rfl rfl (c_readOperand_w (dd := d) (hE := hE) (hd := by omega) (hW := hW)  (ln := ln) (e_ln := show G 9 = ln from (e_ln)) (le := le) (e_le := show A 4 (ln).toNat = le from (e_le)) (at0 := at0) (e_at0 := show G 10 = at0 from (e_at0)) (fk := fk) (e_fk := show G 16 = fk from (e_fk)) (op0 := op0) (e_op0 := show G 15 = op0 from (e_op0)) (nd := nd) (e_nd := show G 31 = nd from (e_nd)) (tk0 := tk0) (e_tk0 := show G 11 = tk0 from (e_tk0)) (ec := ec) (e_ec := show ecn A (G 31) = ec from e_ec) (i_SV := (SV_ext (rfl) (rfl) i_SV))   (p_0 := by omega) (p_1 := by omega) (p_2 := by omega) (p_3 := by omega) (p_4 := by omega) (p_5 := by omega)) (fun o V' hq => ?_)
              obtain ⟨G414, A415, r416, at2_417, fk2_418, op2_419, nd2_420, tk2_421, ec2_422, rfl, rfl, hW423, hF424, hQ425, b426, e427, e428, e429, e430, e431, e432, p433, p434, p435, p436, p437, p438, q439⟩ := hq
              have hF440 := Fr_tr hF0 hF424 (Fr_sub (by decide)) (Fr_sub (by decide))
              have hP441 := Pf_tr hP0 hQ425 (by omega)
              have bat2_417 : (0 : Int) ≤ at2_417 ∧ at2_417 ≤ 3002 := e427 ▸ hW423.1 10
              have bfk2_418 : (0 : Int) ≤ fk2_418 ∧ fk2_418 ≤ 6 := e428 ▸ hW423.1 16
              have bop2_419 : (-2147483648 : Int) ≤ op2_419 ∧ op2_419 ≤ 2147483647 := e429 ▸ hW423.1 15
              have bnd2_420 : (0 : Int) ≤ nd2_420 ∧ nd2_420 ≤ 6999 := e430 ▸ hW423.1 31
              have ztk2_421 := tz_b tk2_421
              have btk2_421 : (0 : Int) ≤ tk2_421 ∧ tk2_421 ≤ 5 := e431 ▸ hW423.1 11
              refine .inr ⟨_, rfl, ?_⟩
              rcases q439 with ⟨a442, a443, a444, a445, a446, a447⟩ | ⟨a448, a449, a450⟩ | ⟨a451, a452, a453, a454, a455⟩
              · have _q : True := trivial
                exfalso
                omega
              · have _q : True := trivial
                refine jx_vr (pc' := 70) (as := [.int (i32 (r416))]) (st := []) rfl rfl rfl rfl ⟨rfl, rfl, Nat.le_of_ble_eq_true rfl⟩ rfl rfl (c_readRest_w (dd := d) (hE := hE) (hd := by omega) (hW := hW423) (x := r416) (lo := nd) (ln := ln) (e_ln := show G414 9 = ln from ((hF424.1 9 rfl).trans (e_ln))) (le := le) (e_le := show A415 4 (ln).toNat = le from (congrFun (hF424.2 4 rfl) _).trans (e_le)) (at0 := at2_417) (e_at0 := show G414 10 = at2_417 from (e427)) (fk := fk2_418) (e_fk := show G414 16 = fk2_418 from (e428)) (op0 := op2_419) (e_op0 := show G414 15 = op2_419 from (e429)) (nd := nd2_420) (e_nd := show G414 31 = nd2_420 from (e430)) (tk0 := tk2_421) (e_tk0 := show G414 11 = tk2_421 from (e431)) (ec := ec2_422) (e_ec := show ecn A415 (G414 31) = ec2_422 from e432) (i_SV := (SV_ext ((hF424.1 29 rfl)) ((hF424.2 14 rfl)) i_SV)) (h_x := ⟨(Int.le_trans (by decide : (-2147483648 : Int) ≤ -2147483648) b426.1), (Int.le_trans b426.2 (by decide : (2147483647 : Int) ≤ 2147483647))⟩)  (p_0 := by omega) (p_1 := by omega) (p_2 := by omega) (p_3 := by omega) (p_4 := by omega) (p_5 := by omega) (p_6 := by omega) (p_7 := by omega) (p_8 := by omega) (p_9 := (fun q => absurd q (by omega)))) (fun o V' hq => ?_)
                obtain ⟨G456, A457, r458, at2_459, fk2_460, op2_461, nd2_462, tk2_463, ec2_464, rfl, rfl, hW465, hF466, hQ467, b468, e469, e470, e471, e472, e473, e474, p475, p476, p477, p478, p479, p480, q481⟩ := hq
                have hF482 := Fr_tr hF440 hF466 (Fr_sub (by decide)) (Fr_sub (by decide))
                have hP483 := Pf_tr hP441 hQ467 (by omega)
                have bat2_459 : (0 : Int) ≤ at2_459 ∧ at2_459 ≤ 3002 := e469 ▸ hW465.1 10
                have bfk2_460 : (0 : Int) ≤ fk2_460 ∧ fk2_460 ≤ 6 := e470 ▸ hW465.1 16
                have bop2_461 : (-2147483648 : Int) ≤ op2_461 ∧ op2_461 ≤ 2147483647 := e471 ▸ hW465.1 15
                have bnd2_462 : (0 : Int) ≤ nd2_462 ∧ nd2_462 ≤ 6999 := e472 ▸ hW465.1 31
                have ztk2_463 := tz_b tk2_463
                have btk2_463 : (0 : Int) ≤ tk2_463 ∧ tk2_463 ≤ 5 := e473 ▸ hW465.1 11
                refine .inr ⟨_, rfl, ?_⟩
                rcases q481 with ⟨a484, a485, a486, a487, a488, a489⟩ | ⟨a490, a491, a492⟩ | ⟨a493, a494, a495, a496, a497⟩
                · have _q : True := trivial
                  refine jx_rt (v := some (.int (i32 (r458)))) rfl rfl rfl rfl rfl rfl ?_
                  have z498 := tz_f (tk2_463)
                  exact ⟨_, _, _, at2_459, fk2_460, op2_461, nd2_462, tk2_463, ec2_464, rfl, rfl, hW465, hF482, hP483, by omega, (e469), (e470), (e471), (e472), (e473), e474, by omega, by omega, by omega, by omega, by omega, by omega, by first | exact Or.inr (Or.inl (⟨by omega, by omega, by omega⟩))⟩
                · have _q : True := trivial
                  exfalso
                  omega
                · have _q : True := trivial
                  exfalso
                  omega
              · have _q : True := trivial
                refine jx_vr (pc' := 70) (as := [.int (i32 (r416))]) (st := []) rfl rfl rfl rfl ⟨rfl, rfl, Nat.le_of_ble_eq_true rfl⟩ rfl rfl (c_readRest_w (dd := d) (hE := hE) (hd := by omega) (hW := hW423) (x := r416) (lo := nd) (ln := ln) (e_ln := show G414 9 = ln from ((hF424.1 9 rfl).trans (e_ln))) (le := le) (e_le := show A415 4 (ln).toNat = le from (congrFun (hF424.2 4 rfl) _).trans (e_le)) (at0 := at2_417) (e_at0 := show G414 10 = at2_417 from (e427)) (fk := fk2_418) (e_fk := show G414 16 = fk2_418 from (e428)) (op0 := op2_419) (e_op0 := show G414 15 = op2_419 from (e429)) (nd := nd2_420) (e_nd := show G414 31 = nd2_420 from (e430)) (tk0 := tk2_421) (e_tk0 := show G414 11 = tk2_421 from (e431)) (ec := ec2_422) (e_ec := show ecn A415 (G414 31) = ec2_422 from e432) (i_SV := (SV_ext ((hF424.1 29 rfl)) ((hF424.2 14 rfl)) i_SV)) (h_x := ⟨(Int.le_trans (by decide : (-2147483648 : Int) ≤ -2147483648) b426.1), (Int.le_trans b426.2 (by decide : (2147483647 : Int) ≤ 2147483647))⟩)  (p_0 := by omega) (p_1 := by omega) (p_2 := by omega) (p_3 := by omega) (p_4 := by omega) (p_5 := by omega) (p_6 := by omega) (p_7 := by omega) (p_8 := by omega) (p_9 := (fun _ => a454))) (fun o V' hq => ?_)
                obtain ⟨G499, A500, r501, at2_502, fk2_503, op2_504, nd2_505, tk2_506, ec2_507, rfl, rfl, hW508, hF509, hQ510, b511, e512, e513, e514, e515, e516, e517, p518, p519, p520, p521, p522, p523, q524⟩ := hq
                have hF525 := Fr_tr hF440 hF509 (Fr_sub (by decide)) (Fr_sub (by decide))
                have hP526 := Pf_tr hP441 hQ510 (by omega)
                have sf527 : wE A500 Vs sb (2 * k + 3) (r416) (nd) (nd2_420) := wE_ag (by omega) (Sg_fr hF509 (by decide)) (Ag_pf hQ510 (by omega)) a454
                have bat2_502 : (0 : Int) ≤ at2_502 ∧ at2_502 ≤ 3002 := e512 ▸ hW508.1 10
                have bfk2_503 : (0 : Int) ≤ fk2_503 ∧ fk2_503 ≤ 6 := e513 ▸ hW508.1 16
                have bop2_504 : (-2147483648 : Int) ≤ op2_504 ∧ op2_504 ≤ 2147483647 := e514 ▸ hW508.1 15
                have bnd2_505 : (0 : Int) ≤ nd2_505 ∧ nd2_505 ≤ 6999 := e515 ▸ hW508.1 31
                have ztk2_506 := tz_b tk2_506
                have btk2_506 : (0 : Int) ≤ tk2_506 ∧ tk2_506 ≤ 5 := e516 ▸ hW508.1 11
                refine .inr ⟨_, rfl, ?_⟩
                rcases q524 with ⟨a528, a529, a530, a531, a532, a533⟩ | ⟨a534, a535, a536⟩ | ⟨a537, a538, a539, a540, a541⟩
                · have _q : True := trivial
                  exfalso
                  omega
                · have _q : True := trivial
                  refine jx_rt (v := some (.int (i32 (r501)))) rfl rfl rfl rfl rfl rfl ?_
                  have z542 := tz_f (tk2_506)
                  exact ⟨_, _, _, at2_502, fk2_503, op2_504, nd2_505, tk2_506, ec2_507, rfl, rfl, hW508, hF525, hP526, by omega, (e512), (e513), (e514), (e515), (e516), e517, by omega, by omega, by omega, by omega, by omega, by omega, by first | exact Or.inr (Or.inl (⟨by omega, by omega, by omega⟩))⟩
                · have _q : True := trivial
                  refine jx_rt (v := some (.int (i32 (r501)))) rfl rfl rfl rfl rfl rfl ?_
                  have z543 := tz_f (tk2_506)
                  exact ⟨_, _, _, at2_502, fk2_503, op2_504, nd2_505, tk2_506, ec2_507, rfl, rfl, hW508, hF525, hP526, by omega, (e512), (e513), (e514), (e515), (e516), e517, by omega, by omega, by omega, by omega, by omega, by omega, by first | exact Or.inr (Or.inr ((⟨by omega, by omega, by omega, (wE_mono (by omega) (by omega) (by omega) a540), by omega⟩)))⟩
            · have _q := h413
              exact absurd h413 (by omega)
    · have _q := h8
      exact absurd h8 (by omega)
set_option maxRecDepth 20000 in
set_option maxHeartbeats 4000000 in
theorem c_readE_0_w {X : jX} {dd : Nat} {Vs : Nat → Prop} {sb : Int} {c0 c1 : jC} {G : Nat → Int} {A : Nat → Nat → Int} {T : jH} {ln le at0 fk op0 nd tk0 ec : Int} (hd : 6 * 0 + 10 ≤ dd) (hW : Wk G A) (e_ln : G 9 = ln) (e_le : A 4 (ln).toNat = le) (e_at0 : G 10 = at0) (e_fk : G 16 = fk) (e_op0 : G 15 = op0) (e_nd : G 31 = nd) (e_tk0 : G 11 = tk0) (e_ec : ecn A (G 31) = ec) (i_SV : SV Vs sb G A) (p_0 : 0 ≤ op0) (p_1 : op0 ≤ 9) (p_2 : op0 ≤ 8 ∨ 1 ≤ fk) (p_3 : 9 - op0 ≤ ((0 : Nat) : Int) ∨ 1 ≤ fk) (p_4 : nd ≤ 2 * at0 - tz tk0 + 50) (p_5 : at0 ≤ le) : wk X dd 286 [.ref 66] (rV c0 c1 G A T) (fun o V' => ∃ (G' : Nat → Int) (A' : Nat → Nat → Int) (r : Int) (at2 : Int) (fk2 : Int) (op2 : Int) (nd2 : Int) (tk2 : Int) (ec2 : Int), V' = rV c0 c1 G' A' T ∧ o = .inl (some (.int (i32 r))) ∧ Wk G' A' ∧ Fr [10, 11, 12, 13, 14, 15, 16, 17, 18, 31] [15, 16, 17, 18, 19, 20, 21, 22, 24, 28] G A G' A' ∧ Pf nd A A' ∧ ((-2147483648 : Int) ≤ r ∧ r ≤ 2147483647) ∧ G' 10 = at2 ∧ G' 16 = fk2 ∧ G' 15 = op2 ∧ G' 31 = nd2 ∧ G' 11 = tk2 ∧ ecn A' (G' 31) = ec2 ∧ (at0 ≤ at2) ∧ (at2 ≤ le) ∧ (nd ≤ nd2) ∧ (op2 = op0) ∧ (0 ≤ r) ∧ (r ≤ nd2) ∧ (((1 ≤ fk) ∧ (1 ≤ fk2) ∧ (nd2 = nd) ∧ (at2 = at0) ∧ (tk2 = tk0) ∧ (tz tk2 = tz tk0)) ∨ ((fk = 0) ∧ (1 ≤ fk2) ∧ (nd2 - nd ≤ (2 * at2 - tz tk2) - (2 * at0 - tz tk0) + 1)) ∨ ((fk = 0) ∧ (fk2 = 0) ∧ (nd2 - nd ≤ (2 * at2 - tz tk2) - (2 * at0 - tz tk0)) ∧ (wE A' Vs sb (2 * 0 + 2) (r) (nd) (nd2)) ∧ (nd2 - nd + 5 * (ec2 - ec) ≤ (2 * at2 - tz tk2) - (2 * at0 - tz tk0) - tz tk2)))) := by
  obtain ⟨d, rfl⟩ : ∃ d, dd = d + 1 := ⟨dd - 1, by omega⟩
  refine wk_of (e := jm286) rfl (Nat.le_of_ble_eq_true rfl) ?_
  show wj X d jm286 (0, [(0, .ref 66)], [], rV c0 c1 G A T) _
  have hF0 : Fr [10, 11, 12, 13, 14, 15, 16, 17, 18, 31] [15, 16, 17, 18, 19, 20, 21, 22, 24, 28] G A G A := Fr_rf
  have hP0 : Pf nd A A := Pf_rf
  have b_ln : (0 : Int) ≤ ln ∧ ln ≤ 3000 := e_ln ▸ hW.1 9
  have b_le : (0 : Int) ≤ le ∧ le ≤ 3000 := e_le ▸ hW.2 4 _
  have b_at0 : (0 : Int) ≤ at0 ∧ at0 ≤ 3002 := e_at0 ▸ hW.1 10
  have b_fk : (0 : Int) ≤ fk ∧ fk ≤ 6 := e_fk ▸ hW.1 16
  have b_op0 : (-2147483648 : Int) ≤ op0 ∧ op0 ≤ 2147483647 := e_op0 ▸ hW.1 15
  have b_nd : (0 : Int) ≤ nd ∧ nd ≤ 6999 := e_nd ▸ hW.1 31
  have z_tk0 := tz_f tk0
  have b_tk0 : (0 : Int) ≤ tk0 ∧ tk0 ≤ 5 := e_tk0 ▸ hW.1 11
  refine jx_ld (pc' := 1) (l' := [(0, .ref 66)]) (st' := [.ref 66]) rfl (jl_aloadn rfl) ?_
  refine jx_vr (pc' := 4) (as := []) (st := []) rfl rfl rfl rfl ⟨rfl, rfl, Nat.le_of_ble_eq_true rfl⟩ rfl rfl (c_bad (dd := d) (hd := by omega) (hW := hW)  (fk := fk) (e_fk := show G 16 = fk from (e_fk))    ) (fun o V' hq => ?_)
  obtain ⟨r1, rfl, rfl, b2, q3⟩ := hq
  refine .inr ⟨_, rfl, ?_⟩
  rcases q3 with ⟨rfl, a4⟩ | ⟨rfl, a5⟩
  · have _q : True := trivial
    refine jx_if_eq (pc' := 7) (tg := 9) rfl rfl rfl (by decide) (by decide) (fun h6 => ?_) (fun h6 => ?_)
    · have _q := h6
      exact absurd h6 (by omega)
    · have _q := h6
      refine jx_ar (pc' := 8) (st' := [.int (i32 (0))]) rfl rfl rfl rfl ?_
      refine jx_rt (v := some (.int (i32 (0)))) rfl rfl rfl rfl rfl rfl ?_
      have z7 := tz_f (tk0)
      exact ⟨_, _, _, at0, fk, op0, nd, tk0, ec, rfl, rfl, hW, hF0, hP0, by omega, (e_at0), (e_fk), (e_op0), (e_nd), (e_tk0), e_ec, by omega, by omega, by omega, by omega, by omega, by omega, by first | exact Or.inl (⟨by omega, by omega, by omega, by omega, by omega, by omega⟩)⟩
  · have _q : True := trivial
    refine jx_if_eq (pc' := 7) (tg := 9) rfl rfl rfl (by decide) (by decide) (fun h8 => ?_) (fun h8 => ?_)
    · have _q := h8
      exfalso
      omega
    · have _q := h8
      exact absurd h8 (by omega)
theorem REw_all (X : jX) : ∀ k, REw X k
  | 0 => @c_readE_0_w X
  | k + 1 => @c_readE_s_w X k (REw_all X k)

