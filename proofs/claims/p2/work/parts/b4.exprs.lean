def REw (X : jX) (k : Nat) : Prop := ∀ ⦃dd : Nat⦄ ⦃Vs : Nat → Prop⦄ ⦃sb : Int⦄ ⦃c0 c1 : jC⦄ ⦃G : Nat → Int⦄ ⦃A : Nat → Nat → Int⦄ ⦃T : jH⦄ ⦃ln le at0 fk op0 nd tk0 ec : Int⦄ (hd : 6 * k + 10 ≤ dd) (hW : Wk G A) (e_ln : G 9 = ln) (e_le : A 4 (ln).toNat = le) (e_at0 : G 10 = at0) (e_fk : G 16 = fk) (e_op0 : G 15 = op0) (e_nd : G 31 = nd) (e_tk0 : G 11 = tk0) (e_ec : ecn A (G 31) = ec) (i_SV : SV Vs sb G A) (p_0 : 0 ≤ op0) (p_1 : op0 ≤ 9) (p_2 : op0 ≤ 8 ∨ 1 ≤ fk) (p_3 : 9 - op0 ≤ (k : Int) ∨ 1 ≤ fk) (p_4 : nd ≤ 2 * at0 - tz tk0 + 50) (p_5 : at0 ≤ le), wk X dd 286 [.ref 66] (rV c0 c1 G A T) (fun o V' => ∃ (G' : Nat → Int) (A' : Nat → Nat → Int) (r : Int) (at2 : Int) (fk2 : Int) (op2 : Int) (nd2 : Int) (tk2 : Int) (ec2 : Int), V' = rV c0 c1 G' A' T ∧ o = .inl (some (.int (i32 r))) ∧ Wk G' A' ∧ Fr [10, 11, 12, 13, 14, 15, 16, 17, 18, 31] [15, 16, 17, 18, 19, 20, 21, 22, 24, 28] G A G' A' ∧ Pf nd A A' ∧ ((-2147483648 : Int) ≤ r ∧ r ≤ 2147483647) ∧ G' 10 = at2 ∧ G' 16 = fk2 ∧ G' 15 = op2 ∧ G' 31 = nd2 ∧ G' 11 = tk2 ∧ ecn A' (G' 31) = ec2 ∧ (at0 ≤ at2) ∧ (at2 ≤ le) ∧ (nd ≤ nd2) ∧ (op2 = op0) ∧ (0 ≤ r) ∧ (r ≤ nd2) ∧ (((1 ≤ fk) ∧ (1 ≤ fk2) ∧ (nd2 = nd) ∧ (at2 = at0) ∧ (tk2 = tk0) ∧ (tz tk2 = tz tk0)) ∨ ((fk = 0) ∧ (1 ≤ fk2) ∧ (nd2 - nd ≤ (2 * at2 - tz tk2) - (2 * at0 - tz tk0) + 1)) ∨ ((fk = 0) ∧ (fk2 = 0) ∧ (nd2 - nd ≤ (2 * at2 - tz tk2) - (2 * at0 - tz tk0)) ∧ (wE A' Vs sb (2 * k + 2) (r) (nd) (nd2)) ∧ (nd2 - nd + 5 * (ec2 - ec) ≤ (2 * at2 - tz tk2) - (2 * at0 - tz tk0) - tz tk2) ∧ (tz tk0 = 1))))
set_option maxRecDepth 20000 in
set_option maxHeartbeats 4000000 in
theorem c_readIndex_w {X : jX} {k : Nat} (hE : REw X k) {dd : Nat} {Vs : Nat → Prop} {sb : Int} {c0 c1 : jC} {G : Nat → Int} {A : Nat → Nat → Int} {T : jH} {ln le at0 fk op0 nd tk0 ec : Int} (hd : 6 * k + 12 ≤ dd) (hW : Wk G A) (e_ln : G 9 = ln) (e_le : A 4 (ln).toNat = le) (e_at0 : G 10 = at0) (e_fk : G 16 = fk) (e_op0 : G 15 = op0) (e_nd : G 31 = nd) (e_tk0 : G 11 = tk0) (e_ec : ecn A (G 31) = ec) (i_SV : SV Vs sb G A) (p_0 : 0 ≤ op0) (p_1 : op0 ≤ 9) (p_2 : op0 ≤ 8 ∨ 1 ≤ fk) (p_3 : 9 - op0 ≤ ((k + 1 : Nat) : Int) ∨ 1 ≤ fk) (p_4 : nd ≤ 2 * at0 - tz tk0 + 50) (p_5 : at0 ≤ le) (p_6 : 1 ≤ tk0) (p_7 : op0 ≤ 8) (p_8 : fk = 0) : wk X dd 284 [.ref 66] (rV c0 c1 G A T) (fun o V' => ∃ (G' : Nat → Int) (A' : Nat → Nat → Int) (r : Int) (at2 : Int) (fk2 : Int) (op2 : Int) (nd2 : Int) (tk2 : Int) (ec2 : Int), V' = rV c0 c1 G' A' T ∧ o = .inl (some (.int (i32 r))) ∧ Wk G' A' ∧ Fr [10, 11, 12, 13, 14, 15, 16, 17, 18, 31] [15, 16, 17, 18, 19, 20, 21, 22, 24, 28] G A G' A' ∧ Pf nd A A' ∧ ((-2147483648 : Int) ≤ r ∧ r ≤ 2147483647) ∧ G' 10 = at2 ∧ G' 16 = fk2 ∧ G' 15 = op2 ∧ G' 31 = nd2 ∧ G' 11 = tk2 ∧ ecn A' (G' 31) = ec2 ∧ (at0 ≤ at2) ∧ (at2 ≤ le) ∧ (nd ≤ nd2) ∧ (op2 = op0) ∧ (0 ≤ r) ∧ (r ≤ nd2) ∧ (((fk = 0) ∧ (1 ≤ fk2) ∧ (nd2 - nd ≤ (2 * at2 - tz tk2) - (2 * at0 - tz tk0) + 1)) ∨ ((fk = 0) ∧ (fk2 = 0) ∧ (nd2 - nd ≤ (2 * at2 - tz tk2) - (2 * at0 - tz tk0)) ∧ (wE A' Vs sb (2 * k + 2) (r) (nd) (nd2)) ∧ (nd2 - nd + 5 * (ec2 - ec) ≤ (2 * at2 - tz tk2) - (2 * at0 - tz tk0) - 4 - tz tk2)))) := by
  obtain ⟨d, rfl⟩ : ∃ d, dd = d + 1 := ⟨dd - 1, by omega⟩
  refine wk_of (e := jm284) rfl (Nat.le_of_ble_eq_true rfl) ?_
  show wj X d jm284 (0, [(0, .ref 66)], [], rV c0 c1 G A T) _
  have hF0 : Fr [10, 11, 12, 13, 14, 15, 16, 17, 18, 31] [15, 16, 17, 18, 19, 20, 21, 22, 24, 28] G A G A := Fr_rf
  have hP0 : Pf nd A A := Pf_rf
  have b_ln : (0 : Int) ≤ ln ∧ ln ≤ 3000 := e_ln ▸ hW.1 9
  have b_le : (0 : Int) ≤ le ∧ le ≤ 3000 := e_le ▸ hW.2 4 _
  have b_at0 : (0 : Int) ≤ at0 ∧ at0 ≤ 3002 := e_at0 ▸ hW.1 10
  have b_fk : (0 : Int) ≤ fk ∧ fk ≤ 6 := e_fk ▸ hW.1 16
  have b_op0 : (-2147483648 : Int) ≤ op0 ∧ op0 ≤ 2147483647 := e_op0 ▸ hW.1 15
  have b_nd : (0 : Int) ≤ nd ∧ nd ≤ 6999 := e_nd ▸ hW.1 31
  have z_tk0 := tz_f tk0
  have b_tk0 : (0 : Int) ≤ tk0 ∧ tk0 ≤ 5 := e_tk0 ▸ hW.1 11
  refine jx_ld (pc' := 1) (l' := [(0, .ref 66)]) (st' := [.ref 66]) rfl (jl_aloadn rfl) ?_
  refine jx_vr (pc' := 4) (as := []) (st := []) rfl rfl rfl rfl ⟨rfl, rfl, Nat.le_of_ble_eq_true rfl⟩ rfl rfl (c_open (dd := d) (hd := by omega) (hW := hW)  (fk := fk) (e_fk := show G 16 = fk from (e_fk)) (op0 := op0) (e_op0 := show G 15 = op0 from (e_op0))    (p_0 := by omega)) (fun o V' hq => ?_)
  obtain ⟨G1, A2, fk2_3, op2_4, rfl, rfl, hW5, hF6, e7, e8, p9, q10⟩ := hq
  have hF11 := Fr_tr hF0 hF6 (Fr_sub (by decide)) (Fr_sub (by decide))
  have hP12 := Pf_f hP0 hF6 (by decide)
  have ec13 : ecn A2 (G1 31) = ec := (ecn_f (hF6.2 15 rfl) (hF6.1 31 rfl)).trans e_ec
  have bfk2_3 : (0 : Int) ≤ fk2_3 ∧ fk2_3 ≤ 6 := e7 ▸ hW5.1 16
  have bop2_4 : (-2147483648 : Int) ≤ op2_4 ∧ op2_4 ≤ 2147483647 := e8 ▸ hW5.1 15
  refine .inl ⟨rfl, ?_⟩
  rcases q10 with a14 | ⟨a15, a16, a17⟩
  · have _q : True := trivial
    refine jx_ld (pc' := 5) (l' := [(0, .ref 66)]) (st' := [.ref 66]) rfl (jl_aloadn rfl) ?_
    refine jx_ar (pc' := 6) (st' := [.int (i32 (1)), .ref 66]) rfl rfl rfl rfl ?_
    refine jx_vr (pc' := 9) (as := [.int (i32 (1))]) (st := []) rfl rfl rfl rfl ⟨rfl, rfl, Nat.le_of_ble_eq_true rfl⟩ rfl rfl (c_need (dd := d) (hd := by omega) (hW := hW5) (g := 1) (ln := ln) (e_ln := show G1 9 = ln from ((hF6.1 9 rfl).trans (e_ln))) (le := le) (e_le := show A2 4 (ln).toNat = le from (congrFun (hF6.2 4 rfl) _).trans (e_le)) (at0 := at0) (e_at0 := show G1 10 = at0 from ((hF6.1 10 rfl).trans (e_at0))) (fk := fk2_3) (e_fk := show G1 16 = fk2_3 from (e7)) (tk0 := tk0) (e_tk0 := show G1 11 = tk0 from ((hF6.1 11 rfl).trans (e_tk0)))  (h_g := ⟨(by decide), (by decide)⟩)  (p_0 := by omega)) (fun o V' hq => ?_)
    obtain ⟨G18, A19, at2_20, tk2_21, fk2_22, rfl, rfl, hW23, hF24, e25, e26, e27, p28, p29, q30⟩ := hq
    have hF31 := Fr_tr hF11 hF24 (Fr_sub (by decide)) (Fr_sub (by decide))
    have hP32 := Pf_f hP12 hF24 (by decide)
    have ec33 : ecn A19 (G18 31) = ec := (ecn_f (hF24.2 15 rfl) (hF24.1 31 rfl)).trans ec13
    have bat2_20 : (0 : Int) ≤ at2_20 ∧ at2_20 ≤ 3002 := e25 ▸ hW23.1 10
    have ztk2_21 := tz_b tk2_21
    have btk2_21 : (0 : Int) ≤ tk2_21 ∧ tk2_21 ≤ 5 := e26 ▸ hW23.1 11
    have bfk2_22 : (0 : Int) ≤ fk2_22 ∧ fk2_22 ≤ 6 := e27 ▸ hW23.1 16
    refine .inl ⟨rfl, ?_⟩
    rcases q30 with ⟨a34, a35, a36, a37⟩ | ⟨a38, a39, a40, a41⟩
    · have _q : True := trivial
      refine jx_ld (pc' := 10) (l' := [(0, .ref 66)]) (st' := [.ref 66]) rfl (jl_aloadn rfl) ?_
      refine jx_vr (pc' := 13) (as := []) (st := []) rfl rfl rfl rfl ⟨rfl, rfl, Nat.le_of_ble_eq_true rfl⟩ rfl rfl (hE (dd := d) (hd := by omega) (hW := hW23)  (ln := ln) (e_ln := show G18 9 = ln from ((hF24.1 9 rfl).trans ((hF6.1 9 rfl).trans (e_ln)))) (le := le) (e_le := show A19 4 (ln).toNat = le from (congrFun ((hF24.2 4 rfl).trans (hF6.2 4 rfl)) _).trans (e_le)) (at0 := at2_20) (e_at0 := show G18 10 = at2_20 from (e25)) (fk := fk2_22) (e_fk := show G18 16 = fk2_22 from (e27)) (op0 := op2_4) (e_op0 := show G18 15 = op2_4 from ((hF24.1 15 rfl).trans (e8))) (nd := nd) (e_nd := show G18 31 = nd from ((hF24.1 31 rfl).trans ((hF6.1 31 rfl).trans (e_nd)))) (tk0 := tk2_21) (e_tk0 := show G18 11 = tk2_21 from (e26)) (ec := ec) (e_ec := show ecn A19 (G18 31) = ec from ec33) (i_SV := (SV_ext (((hF24.1 29 rfl).trans (hF6.1 29 rfl))) (((hF24.2 14 rfl).trans (hF6.2 14 rfl))) i_SV))   (p_0 := by omega) (p_1 := by omega) (p_2 := by omega) (p_3 := by omega) (p_4 := by omega) (p_5 := by omega)) (fun o V' hq => ?_)
      obtain ⟨G42, A43, r44, at2_45, fk2_46, op2_47, nd2_48, tk2_49, ec2_50, rfl, rfl, hW51, hF52, hQ53, b54, e55, e56, e57, e58, e59, e60, p61, p62, p63, p64, p65, p66, q67⟩ := hq
      have hF68 := Fr_tr hF31 hF52 (Fr_sub (by decide)) (Fr_sub (by decide))
      have hP69 := Pf_tr hP32 hQ53 (by omega)
      have bat2_45 : (0 : Int) ≤ at2_45 ∧ at2_45 ≤ 3002 := e55 ▸ hW51.1 10
      have bfk2_46 : (0 : Int) ≤ fk2_46 ∧ fk2_46 ≤ 6 := e56 ▸ hW51.1 16
      have bop2_47 : (-2147483648 : Int) ≤ op2_47 ∧ op2_47 ≤ 2147483647 := e57 ▸ hW51.1 15
      have bnd2_48 : (0 : Int) ≤ nd2_48 ∧ nd2_48 ≤ 6999 := e58 ▸ hW51.1 31
      have ztk2_49 := tz_b tk2_49
      have btk2_49 : (0 : Int) ≤ tk2_49 ∧ tk2_49 ≤ 5 := e59 ▸ hW51.1 11
      refine .inr ⟨_, rfl, ?_⟩
      rcases q67 with ⟨a70, a71, a72, a73, a74, a75⟩ | ⟨a76, a77, a78⟩ | ⟨a79, a80, a81, a82, a83, a84⟩
      · have _q : True := trivial
        refine jx_ld (pc' := 14) (l' := jSto1 [(0, .ref 66)] 1 (.int (i32 (r44)))) (st' := []) rfl rfl ?_
        obtain ⟨L85, eL85⟩ : ∃ q, q = jSto1 [(0, .ref 66)] 1 (.int (i32 (r44))) := ⟨_, rfl⟩
        rw [← eL85]
        have gL85_0 : jGet L85 0 = some (.ref 66) := eL85 ▸ jg_ne (by decide) (rfl : jGet [(0, .ref 66)] 0 = some (.ref 66)) rfl
        have gL85_1 : jGet L85 1 = some (.int (i32 (r44))) := eL85 ▸ jg_eq
        refine jx_ld (pc' := 15) (l' := L85) (st' := [.ref 66]) rfl (jl_aloadn gL85_0) ?_
        refine jx_ld (pc' := 16) (l' := L85) (st' := [.ref 66, .ref 66]) rfl (jl_aloadn gL85_0) ?_
        refine jx_ar (pc' := 18) (st' := [.int (i32 (93)), .ref 66, .ref 66]) rfl rfl rfl rfl ?_
        have b86 : (-2147483648 : Int) ≤ G42 13 ∧ G42 13 ≤ 2147483647 := hW51.1 13
        refine jx_vr (pc' := 21) (as := [.int (i32 (93))]) (st := [.ref 66]) rfl rfl rfl rfl ⟨rfl, rfl, Nat.le_of_ble_eq_true rfl⟩ rfl rfl (c_is (dd := d) (hd := by omega) (hW := hW51) (k := 93) (tk := tk2_49) (e_tk := show G42 11 = tk2_49 from (e59)) (tn := G42 13) (e_tn := show G42 13 = G42 13 from rfl)  (h_k := ⟨(by decide), (by decide)⟩)  ) (fun o V' hq => ?_)
        obtain ⟨r87, rfl, rfl, b88, q89⟩ := hq
        refine .inr ⟨_, rfl, ?_⟩
        rcases q89 with ⟨rfl, a90, a91, a92⟩ | rfl
        · have _q : True := trivial
          refine jx_vr (pc' := 24) (as := [.int (i32 (1))]) (st := []) rfl rfl rfl rfl ⟨rfl, rfl, Nat.le_of_ble_eq_true rfl⟩ rfl rfl (c_need (dd := d) (hd := by omega) (hW := hW51) (g := 1) (ln := ln) (e_ln := show G42 9 = ln from ((hF52.1 9 rfl).trans ((hF24.1 9 rfl).trans ((hF6.1 9 rfl).trans (e_ln))))) (le := le) (e_le := show A43 4 (ln).toNat = le from (congrFun ((hF52.2 4 rfl).trans ((hF24.2 4 rfl).trans (hF6.2 4 rfl))) _).trans (e_le)) (at0 := at2_45) (e_at0 := show G42 10 = at2_45 from (e55)) (fk := fk2_46) (e_fk := show G42 16 = fk2_46 from (e56)) (tk0 := tk2_49) (e_tk0 := show G42 11 = tk2_49 from (e59))  (h_g := ⟨(by decide), (by decide)⟩)  (p_0 := by omega)) (fun o V' hq => ?_)
          obtain ⟨G93, A94, at2_95, tk2_96, fk2_97, rfl, rfl, hW98, hF99, e100, e101, e102, p103, p104, q105⟩ := hq
          have hF106 := Fr_tr hF68 hF99 (Fr_sub (by decide)) (Fr_sub (by decide))
          have hP107 := Pf_f hP69 hF99 (by decide)
          have ec108 : ecn A94 (G93 31) = ec2_50 := (ecn_f (hF99.2 15 rfl) (hF99.1 31 rfl)).trans e60
          have bat2_95 : (0 : Int) ≤ at2_95 ∧ at2_95 ≤ 3002 := e100 ▸ hW98.1 10
          have ztk2_96 := tz_b tk2_96
          have btk2_96 : (0 : Int) ≤ tk2_96 ∧ tk2_96 ≤ 5 := e101 ▸ hW98.1 11
          have bfk2_97 : (0 : Int) ≤ fk2_97 ∧ fk2_97 ≤ 6 := e102 ▸ hW98.1 16
          refine .inl ⟨rfl, ?_⟩
          rcases q105 with ⟨a109, a110, a111, a112⟩ | ⟨a113, a114, a115, a116⟩
          · have _q : True := trivial
            refine jx_ld (pc' := 25) (l' := L85) (st' := [.ref 66]) rfl (jl_aloadn gL85_0) ?_
            refine jx_ar (pc' := 26) (st' := [.ref 66, .ref 66]) rfl rfl rfl rfl ?_
            refine jr_get (pc' := 29) (i := 15) (v := .int (i32 (op2_47))) rfl rfl (by decide) (rFv_eq (by decide) (show G93 15 = op2_47 from ((hF99.1 15 rfl).trans (e57)))) rfl ?_
            refine jx_ar (pc' := 30) (st' := [.int (i32 (1)), .int (i32 (op2_47)), .ref 66]) rfl rfl rfl rfl ?_
            refine jx_sub (pc' := 31) rfl rfl ?_
            refine jr_put (pc' := 34) (i := 15) (z := (op2_47 - 1)) rfl rfl (by decide) rfl rfl rfl rfl rfl rfl ?_
            have hW117 : Wk (uG G93 15 ((op2_47 - 1))) A94 := Wk_g hW98 (show (-2147483648 : Int) ≤ (op2_47 - 1) by omega) (show (op2_47 - 1) ≤ (2147483647 : Int) by omega)
            have hF118 := Fr_g (z := (op2_47 - 1)) (i := 15) hF106 (by decide)
            have ec119 : ecn A94 ((uG G93 15 ((op2_47 - 1))) 31) = ec2_50 := ec108
            refine jx_ld (pc' := 35) (l' := L85) (st' := [.int (i32 (r44))]) rfl (jl_iloadn gL85_1) ?_
            refine jx_rt (v := some (.int (i32 (r44)))) rfl rfl rfl rfl rfl rfl ?_
            have z120 := tz_f (tk2_96)
            exact ⟨_, _, _, at2_95, fk2_97, (op2_47 - 1), nd2_48, tk2_96, ec2_50, rfl, rfl, hW117, hF118, hP107, by omega, (e100), (e102), rfl, ((hF99.1 31 rfl).trans (e58)), (e101), ec119, by omega, by omega, by omega, by omega, by omega, by omega, by first | exact Or.inl (⟨by omega, by omega, by omega⟩)⟩
          · have _q : True := trivial
            exfalso
            omega
        · have _q : True := trivial
          refine jx_vr (pc' := 24) (as := [.int (i32 (0))]) (st := []) rfl rfl rfl rfl ⟨rfl, rfl, Nat.le_of_ble_eq_true rfl⟩ rfl rfl (c_need (dd := d) (hd := by omega) (hW := hW51) (g := 0) (ln := ln) (e_ln := show G42 9 = ln from ((hF52.1 9 rfl).trans ((hF24.1 9 rfl).trans ((hF6.1 9 rfl).trans (e_ln))))) (le := le) (e_le := show A43 4 (ln).toNat = le from (congrFun ((hF52.2 4 rfl).trans ((hF24.2 4 rfl).trans (hF6.2 4 rfl))) _).trans (e_le)) (at0 := at2_45) (e_at0 := show G42 10 = at2_45 from (e55)) (fk := fk2_46) (e_fk := show G42 16 = fk2_46 from (e56)) (tk0 := tk2_49) (e_tk0 := show G42 11 = tk2_49 from (e59))  (h_g := ⟨(by decide), (by decide)⟩)  (p_0 := by omega)) (fun o V' hq => ?_)
          obtain ⟨G121, A122, at2_123, tk2_124, fk2_125, rfl, rfl, hW126, hF127, e128, e129, e130, p131, p132, q133⟩ := hq
          have hF134 := Fr_tr hF68 hF127 (Fr_sub (by decide)) (Fr_sub (by decide))
          have hP135 := Pf_f hP69 hF127 (by decide)
          have ec136 : ecn A122 (G121 31) = ec2_50 := (ecn_f (hF127.2 15 rfl) (hF127.1 31 rfl)).trans e60
          have bat2_123 : (0 : Int) ≤ at2_123 ∧ at2_123 ≤ 3002 := e128 ▸ hW126.1 10
          have ztk2_124 := tz_b tk2_124
          have btk2_124 : (0 : Int) ≤ tk2_124 ∧ tk2_124 ≤ 5 := e129 ▸ hW126.1 11
          have bfk2_125 : (0 : Int) ≤ fk2_125 ∧ fk2_125 ≤ 6 := e130 ▸ hW126.1 16
          refine .inl ⟨rfl, ?_⟩
          rcases q133 with ⟨a137, a138, a139, a140⟩ | ⟨a141, a142, a143, a144⟩
          · have _q : True := trivial
            refine jx_ld (pc' := 25) (l' := L85) (st' := [.ref 66]) rfl (jl_aloadn gL85_0) ?_
            refine jx_ar (pc' := 26) (st' := [.ref 66, .ref 66]) rfl rfl rfl rfl ?_
            refine jr_get (pc' := 29) (i := 15) (v := .int (i32 (op2_47))) rfl rfl (by decide) (rFv_eq (by decide) (show G121 15 = op2_47 from ((hF127.1 15 rfl).trans (e57)))) rfl ?_
            refine jx_ar (pc' := 30) (st' := [.int (i32 (1)), .int (i32 (op2_47)), .ref 66]) rfl rfl rfl rfl ?_
            refine jx_sub (pc' := 31) rfl rfl ?_
            refine jr_put (pc' := 34) (i := 15) (z := (op2_47 - 1)) rfl rfl (by decide) rfl rfl rfl rfl rfl rfl ?_
            have hW145 : Wk (uG G121 15 ((op2_47 - 1))) A122 := Wk_g hW126 (show (-2147483648 : Int) ≤ (op2_47 - 1) by omega) (show (op2_47 - 1) ≤ (2147483647 : Int) by omega)
            have hF146 := Fr_g (z := (op2_47 - 1)) (i := 15) hF134 (by decide)
            have ec147 : ecn A122 ((uG G121 15 ((op2_47 - 1))) 31) = ec2_50 := ec136
            refine jx_ld (pc' := 35) (l' := L85) (st' := [.int (i32 (r44))]) rfl (jl_iloadn gL85_1) ?_
            refine jx_rt (v := some (.int (i32 (r44)))) rfl rfl rfl rfl rfl rfl ?_
            have z148 := tz_f (tk2_124)
            exact ⟨_, _, _, at2_123, fk2_125, (op2_47 - 1), nd2_48, tk2_124, ec2_50, rfl, rfl, hW145, hF146, hP135, by omega, (e128), (e130), rfl, ((hF127.1 31 rfl).trans (e58)), (e129), ec147, by omega, by omega, by omega, by omega, by omega, by omega, by first | exact Or.inl (⟨by omega, by omega, by omega⟩)⟩
          · have _q : True := trivial
            exfalso
            omega
      · have _q : True := trivial
        exfalso
        omega
      · have _q : True := trivial
        exfalso
        omega
    · have _q : True := trivial
      exfalso
      omega
  · have _q : True := trivial
    refine jx_ld (pc' := 5) (l' := [(0, .ref 66)]) (st' := [.ref 66]) rfl (jl_aloadn rfl) ?_
    refine jx_ar (pc' := 6) (st' := [.int (i32 (1)), .ref 66]) rfl rfl rfl rfl ?_
    refine jx_vr (pc' := 9) (as := [.int (i32 (1))]) (st := []) rfl rfl rfl rfl ⟨rfl, rfl, Nat.le_of_ble_eq_true rfl⟩ rfl rfl (c_need (dd := d) (hd := by omega) (hW := hW5) (g := 1) (ln := ln) (e_ln := show G1 9 = ln from ((hF6.1 9 rfl).trans (e_ln))) (le := le) (e_le := show A2 4 (ln).toNat = le from (congrFun (hF6.2 4 rfl) _).trans (e_le)) (at0 := at0) (e_at0 := show G1 10 = at0 from ((hF6.1 10 rfl).trans (e_at0))) (fk := fk2_3) (e_fk := show G1 16 = fk2_3 from (e7)) (tk0 := tk0) (e_tk0 := show G1 11 = tk0 from ((hF6.1 11 rfl).trans (e_tk0)))  (h_g := ⟨(by decide), (by decide)⟩)  (p_0 := by omega)) (fun o V' hq => ?_)
    obtain ⟨G149, A150, at2_151, tk2_152, fk2_153, rfl, rfl, hW154, hF155, e156, e157, e158, p159, p160, q161⟩ := hq
    have hF162 := Fr_tr hF11 hF155 (Fr_sub (by decide)) (Fr_sub (by decide))
    have hP163 := Pf_f hP12 hF155 (by decide)
    have ec164 : ecn A150 (G149 31) = ec := (ecn_f (hF155.2 15 rfl) (hF155.1 31 rfl)).trans ec13
    have bat2_151 : (0 : Int) ≤ at2_151 ∧ at2_151 ≤ 3002 := e156 ▸ hW154.1 10
    have ztk2_152 := tz_b tk2_152
    have btk2_152 : (0 : Int) ≤ tk2_152 ∧ tk2_152 ≤ 5 := e157 ▸ hW154.1 11
    have bfk2_153 : (0 : Int) ≤ fk2_153 ∧ fk2_153 ≤ 6 := e158 ▸ hW154.1 16
    refine .inl ⟨rfl, ?_⟩
    rcases q161 with ⟨a165, a166, a167, a168⟩ | ⟨a169, a170, a171, a172⟩
    · have _q : True := trivial
      refine jx_ld (pc' := 10) (l' := [(0, .ref 66)]) (st' := [.ref 66]) rfl (jl_aloadn rfl) ?_
      refine jx_vr (pc' := 13) (as := []) (st := []) rfl rfl rfl rfl ⟨rfl, rfl, Nat.le_of_ble_eq_true rfl⟩ rfl rfl (hE (dd := d) (hd := by omega) (hW := hW154)  (ln := ln) (e_ln := show G149 9 = ln from ((hF155.1 9 rfl).trans ((hF6.1 9 rfl).trans (e_ln)))) (le := le) (e_le := show A150 4 (ln).toNat = le from (congrFun ((hF155.2 4 rfl).trans (hF6.2 4 rfl)) _).trans (e_le)) (at0 := at2_151) (e_at0 := show G149 10 = at2_151 from (e156)) (fk := fk2_153) (e_fk := show G149 16 = fk2_153 from (e158)) (op0 := op2_4) (e_op0 := show G149 15 = op2_4 from ((hF155.1 15 rfl).trans (e8))) (nd := nd) (e_nd := show G149 31 = nd from ((hF155.1 31 rfl).trans ((hF6.1 31 rfl).trans (e_nd)))) (tk0 := tk2_152) (e_tk0 := show G149 11 = tk2_152 from (e157)) (ec := ec) (e_ec := show ecn A150 (G149 31) = ec from ec164) (i_SV := (SV_ext (((hF155.1 29 rfl).trans (hF6.1 29 rfl))) (((hF155.2 14 rfl).trans (hF6.2 14 rfl))) i_SV))   (p_0 := by omega) (p_1 := by omega) (p_2 := by omega) (p_3 := by omega) (p_4 := by omega) (p_5 := by omega)) (fun o V' hq => ?_)
      obtain ⟨G173, A174, r175, at2_176, fk2_177, op2_178, nd2_179, tk2_180, ec2_181, rfl, rfl, hW182, hF183, hQ184, b185, e186, e187, e188, e189, e190, e191, p192, p193, p194, p195, p196, p197, q198⟩ := hq
      have hF199 := Fr_tr hF162 hF183 (Fr_sub (by decide)) (Fr_sub (by decide))
      have hP200 := Pf_tr hP163 hQ184 (by omega)
      have bat2_176 : (0 : Int) ≤ at2_176 ∧ at2_176 ≤ 3002 := e186 ▸ hW182.1 10
      have bfk2_177 : (0 : Int) ≤ fk2_177 ∧ fk2_177 ≤ 6 := e187 ▸ hW182.1 16
      have bop2_178 : (-2147483648 : Int) ≤ op2_178 ∧ op2_178 ≤ 2147483647 := e188 ▸ hW182.1 15
      have bnd2_179 : (0 : Int) ≤ nd2_179 ∧ nd2_179 ≤ 6999 := e189 ▸ hW182.1 31
      have ztk2_180 := tz_b tk2_180
      have btk2_180 : (0 : Int) ≤ tk2_180 ∧ tk2_180 ≤ 5 := e190 ▸ hW182.1 11
      refine .inr ⟨_, rfl, ?_⟩
      rcases q198 with ⟨a201, a202, a203, a204, a205, a206⟩ | ⟨a207, a208, a209⟩ | ⟨a210, a211, a212, a213, a214, a215⟩
      · have _q : True := trivial
        refine jx_ld (pc' := 14) (l' := jSto1 [(0, .ref 66)] 1 (.int (i32 (r175)))) (st' := []) rfl rfl ?_
        obtain ⟨L216, eL216⟩ : ∃ q, q = jSto1 [(0, .ref 66)] 1 (.int (i32 (r175))) := ⟨_, rfl⟩
        rw [← eL216]
        have gL216_0 : jGet L216 0 = some (.ref 66) := eL216 ▸ jg_ne (by decide) (rfl : jGet [(0, .ref 66)] 0 = some (.ref 66)) rfl
        have gL216_1 : jGet L216 1 = some (.int (i32 (r175))) := eL216 ▸ jg_eq
        refine jx_ld (pc' := 15) (l' := L216) (st' := [.ref 66]) rfl (jl_aloadn gL216_0) ?_
        refine jx_ld (pc' := 16) (l' := L216) (st' := [.ref 66, .ref 66]) rfl (jl_aloadn gL216_0) ?_
        refine jx_ar (pc' := 18) (st' := [.int (i32 (93)), .ref 66, .ref 66]) rfl rfl rfl rfl ?_
        have b217 : (-2147483648 : Int) ≤ G173 13 ∧ G173 13 ≤ 2147483647 := hW182.1 13
        refine jx_vr (pc' := 21) (as := [.int (i32 (93))]) (st := [.ref 66]) rfl rfl rfl rfl ⟨rfl, rfl, Nat.le_of_ble_eq_true rfl⟩ rfl rfl (c_is (dd := d) (hd := by omega) (hW := hW182) (k := 93) (tk := tk2_180) (e_tk := show G173 11 = tk2_180 from (e190)) (tn := G173 13) (e_tn := show G173 13 = G173 13 from rfl)  (h_k := ⟨(by decide), (by decide)⟩)  ) (fun o V' hq => ?_)
        obtain ⟨r218, rfl, rfl, b219, q220⟩ := hq
        refine .inr ⟨_, rfl, ?_⟩
        rcases q220 with ⟨rfl, a221, a222, a223⟩ | rfl
        · have _q : True := trivial
          refine jx_vr (pc' := 24) (as := [.int (i32 (1))]) (st := []) rfl rfl rfl rfl ⟨rfl, rfl, Nat.le_of_ble_eq_true rfl⟩ rfl rfl (c_need (dd := d) (hd := by omega) (hW := hW182) (g := 1) (ln := ln) (e_ln := show G173 9 = ln from ((hF183.1 9 rfl).trans ((hF155.1 9 rfl).trans ((hF6.1 9 rfl).trans (e_ln))))) (le := le) (e_le := show A174 4 (ln).toNat = le from (congrFun ((hF183.2 4 rfl).trans ((hF155.2 4 rfl).trans (hF6.2 4 rfl))) _).trans (e_le)) (at0 := at2_176) (e_at0 := show G173 10 = at2_176 from (e186)) (fk := fk2_177) (e_fk := show G173 16 = fk2_177 from (e187)) (tk0 := tk2_180) (e_tk0 := show G173 11 = tk2_180 from (e190))  (h_g := ⟨(by decide), (by decide)⟩)  (p_0 := by omega)) (fun o V' hq => ?_)
          obtain ⟨G224, A225, at2_226, tk2_227, fk2_228, rfl, rfl, hW229, hF230, e231, e232, e233, p234, p235, q236⟩ := hq
          have hF237 := Fr_tr hF199 hF230 (Fr_sub (by decide)) (Fr_sub (by decide))
          have hP238 := Pf_f hP200 hF230 (by decide)
          have ec239 : ecn A225 (G224 31) = ec2_181 := (ecn_f (hF230.2 15 rfl) (hF230.1 31 rfl)).trans e191
          have bat2_226 : (0 : Int) ≤ at2_226 ∧ at2_226 ≤ 3002 := e231 ▸ hW229.1 10
          have ztk2_227 := tz_b tk2_227
          have btk2_227 : (0 : Int) ≤ tk2_227 ∧ tk2_227 ≤ 5 := e232 ▸ hW229.1 11
          have bfk2_228 : (0 : Int) ≤ fk2_228 ∧ fk2_228 ≤ 6 := e233 ▸ hW229.1 16
          refine .inl ⟨rfl, ?_⟩
          rcases q236 with ⟨a240, a241, a242, a243⟩ | ⟨a244, a245, a246, a247⟩
          · have _q : True := trivial
            refine jx_ld (pc' := 25) (l' := L216) (st' := [.ref 66]) rfl (jl_aloadn gL216_0) ?_
            refine jx_ar (pc' := 26) (st' := [.ref 66, .ref 66]) rfl rfl rfl rfl ?_
            refine jr_get (pc' := 29) (i := 15) (v := .int (i32 (op2_178))) rfl rfl (by decide) (rFv_eq (by decide) (show G224 15 = op2_178 from ((hF230.1 15 rfl).trans (e188)))) rfl ?_
            refine jx_ar (pc' := 30) (st' := [.int (i32 (1)), .int (i32 (op2_178)), .ref 66]) rfl rfl rfl rfl ?_
            refine jx_sub (pc' := 31) rfl rfl ?_
            refine jr_put (pc' := 34) (i := 15) (z := (op2_178 - 1)) rfl rfl (by decide) rfl rfl rfl rfl rfl rfl ?_
            have hW248 : Wk (uG G224 15 ((op2_178 - 1))) A225 := Wk_g hW229 (show (-2147483648 : Int) ≤ (op2_178 - 1) by omega) (show (op2_178 - 1) ≤ (2147483647 : Int) by omega)
            have hF249 := Fr_g (z := (op2_178 - 1)) (i := 15) hF237 (by decide)
            have ec250 : ecn A225 ((uG G224 15 ((op2_178 - 1))) 31) = ec2_181 := ec239
            refine jx_ld (pc' := 35) (l' := L216) (st' := [.int (i32 (r175))]) rfl (jl_iloadn gL216_1) ?_
            refine jx_rt (v := some (.int (i32 (r175)))) rfl rfl rfl rfl rfl rfl ?_
            have z251 := tz_f (tk2_227)
            exact ⟨_, _, _, at2_226, fk2_228, (op2_178 - 1), nd2_179, tk2_227, ec2_181, rfl, rfl, hW248, hF249, hP238, by omega, (e231), (e233), rfl, ((hF230.1 31 rfl).trans (e189)), (e232), ec250, by omega, by omega, by omega, by omega, by omega, by omega, by first | exact Or.inl (⟨by omega, by omega, by omega⟩)⟩
          · have _q : True := trivial
            exfalso
            omega
        · have _q : True := trivial
          refine jx_vr (pc' := 24) (as := [.int (i32 (0))]) (st := []) rfl rfl rfl rfl ⟨rfl, rfl, Nat.le_of_ble_eq_true rfl⟩ rfl rfl (c_need (dd := d) (hd := by omega) (hW := hW182) (g := 0) (ln := ln) (e_ln := show G173 9 = ln from ((hF183.1 9 rfl).trans ((hF155.1 9 rfl).trans ((hF6.1 9 rfl).trans (e_ln))))) (le := le) (e_le := show A174 4 (ln).toNat = le from (congrFun ((hF183.2 4 rfl).trans ((hF155.2 4 rfl).trans (hF6.2 4 rfl))) _).trans (e_le)) (at0 := at2_176) (e_at0 := show G173 10 = at2_176 from (e186)) (fk := fk2_177) (e_fk := show G173 16 = fk2_177 from (e187)) (tk0 := tk2_180) (e_tk0 := show G173 11 = tk2_180 from (e190))  (h_g := ⟨(by decide), (by decide)⟩)  (p_0 := by omega)) (fun o V' hq => ?_)
          obtain ⟨G252, A253, at2_254, tk2_255, fk2_256, rfl, rfl, hW257, hF258, e259, e260, e261, p262, p263, q264⟩ := hq
          have hF265 := Fr_tr hF199 hF258 (Fr_sub (by decide)) (Fr_sub (by decide))
          have hP266 := Pf_f hP200 hF258 (by decide)
          have ec267 : ecn A253 (G252 31) = ec2_181 := (ecn_f (hF258.2 15 rfl) (hF258.1 31 rfl)).trans e191
          have bat2_254 : (0 : Int) ≤ at2_254 ∧ at2_254 ≤ 3002 := e259 ▸ hW257.1 10
          have ztk2_255 := tz_b tk2_255
          have btk2_255 : (0 : Int) ≤ tk2_255 ∧ tk2_255 ≤ 5 := e260 ▸ hW257.1 11
          have bfk2_256 : (0 : Int) ≤ fk2_256 ∧ fk2_256 ≤ 6 := e261 ▸ hW257.1 16
          refine .inl ⟨rfl, ?_⟩
          rcases q264 with ⟨a268, a269, a270, a271⟩ | ⟨a272, a273, a274, a275⟩
          · have _q : True := trivial
            refine jx_ld (pc' := 25) (l' := L216) (st' := [.ref 66]) rfl (jl_aloadn gL216_0) ?_
            refine jx_ar (pc' := 26) (st' := [.ref 66, .ref 66]) rfl rfl rfl rfl ?_
            refine jr_get (pc' := 29) (i := 15) (v := .int (i32 (op2_178))) rfl rfl (by decide) (rFv_eq (by decide) (show G252 15 = op2_178 from ((hF258.1 15 rfl).trans (e188)))) rfl ?_
            refine jx_ar (pc' := 30) (st' := [.int (i32 (1)), .int (i32 (op2_178)), .ref 66]) rfl rfl rfl rfl ?_
            refine jx_sub (pc' := 31) rfl rfl ?_
            refine jr_put (pc' := 34) (i := 15) (z := (op2_178 - 1)) rfl rfl (by decide) rfl rfl rfl rfl rfl rfl ?_
            have hW276 : Wk (uG G252 15 ((op2_178 - 1))) A253 := Wk_g hW257 (show (-2147483648 : Int) ≤ (op2_178 - 1) by omega) (show (op2_178 - 1) ≤ (2147483647 : Int) by omega)
            have hF277 := Fr_g (z := (op2_178 - 1)) (i := 15) hF265 (by decide)
            have ec278 : ecn A253 ((uG G252 15 ((op2_178 - 1))) 31) = ec2_181 := ec267
            refine jx_ld (pc' := 35) (l' := L216) (st' := [.int (i32 (r175))]) rfl (jl_iloadn gL216_1) ?_
            refine jx_rt (v := some (.int (i32 (r175)))) rfl rfl rfl rfl rfl rfl ?_
            have z279 := tz_f (tk2_255)
            exact ⟨_, _, _, at2_254, fk2_256, (op2_178 - 1), nd2_179, tk2_255, ec2_181, rfl, rfl, hW276, hF277, hP266, by omega, (e259), (e261), rfl, ((hF258.1 31 rfl).trans (e189)), (e260), ec278, by omega, by omega, by omega, by omega, by omega, by omega, by first | exact Or.inl (⟨by omega, by omega, by omega⟩)⟩
          · have _q : True := trivial
            exfalso
            omega
      · have _q : True := trivial
        exfalso
        omega
      · have _q : True := trivial
        exfalso
        omega
    · have _q : True := trivial
      have pz280 : at0 + tz tk2_152 ≤ at2_151 := by omega
      refine jx_ld (pc' := 10) (l' := [(0, .ref 66)]) (st' := [.ref 66]) rfl (jl_aloadn rfl) ?_
      refine jx_vr (pc' := 13) (as := []) (st := []) rfl rfl rfl rfl ⟨rfl, rfl, Nat.le_of_ble_eq_true rfl⟩ rfl rfl (hE (dd := d) (hd := by omega) (hW := hW154)  (ln := ln) (e_ln := show G149 9 = ln from ((hF155.1 9 rfl).trans ((hF6.1 9 rfl).trans (e_ln)))) (le := le) (e_le := show A150 4 (ln).toNat = le from (congrFun ((hF155.2 4 rfl).trans (hF6.2 4 rfl)) _).trans (e_le)) (at0 := at2_151) (e_at0 := show G149 10 = at2_151 from (e156)) (fk := fk2_153) (e_fk := show G149 16 = fk2_153 from (e158)) (op0 := op2_4) (e_op0 := show G149 15 = op2_4 from ((hF155.1 15 rfl).trans (e8))) (nd := nd) (e_nd := show G149 31 = nd from ((hF155.1 31 rfl).trans ((hF6.1 31 rfl).trans (e_nd)))) (tk0 := tk2_152) (e_tk0 := show G149 11 = tk2_152 from (e157)) (ec := ec) (e_ec := show ecn A150 (G149 31) = ec from ec164) (i_SV := (SV_ext (((hF155.1 29 rfl).trans (hF6.1 29 rfl))) (((hF155.2 14 rfl).trans (hF6.2 14 rfl))) i_SV))   (p_0 := by omega) (p_1 := by omega) (p_2 := by omega) (p_3 := by omega) (p_4 := by omega) (p_5 := by omega)) (fun o V' hq => ?_)
      obtain ⟨G281, A282, r283, at2_284, fk2_285, op2_286, nd2_287, tk2_288, ec2_289, rfl, rfl, hW290, hF291, hQ292, b293, e294, e295, e296, e297, e298, e299, p300, p301, p302, p303, p304, p305, q306⟩ := hq
      have hF307 := Fr_tr hF162 hF291 (Fr_sub (by decide)) (Fr_sub (by decide))
      have hP308 := Pf_tr hP163 hQ292 (by omega)
      have bat2_284 : (0 : Int) ≤ at2_284 ∧ at2_284 ≤ 3002 := e294 ▸ hW290.1 10
      have bfk2_285 : (0 : Int) ≤ fk2_285 ∧ fk2_285 ≤ 6 := e295 ▸ hW290.1 16
      have bop2_286 : (-2147483648 : Int) ≤ op2_286 ∧ op2_286 ≤ 2147483647 := e296 ▸ hW290.1 15
      have bnd2_287 : (0 : Int) ≤ nd2_287 ∧ nd2_287 ≤ 6999 := e297 ▸ hW290.1 31
      have ztk2_288 := tz_b tk2_288
      have btk2_288 : (0 : Int) ≤ tk2_288 ∧ tk2_288 ≤ 5 := e298 ▸ hW290.1 11
      refine .inr ⟨_, rfl, ?_⟩
      rcases q306 with ⟨a309, a310, a311, a312, a313, a314⟩ | ⟨a315, a316, a317⟩ | ⟨a318, a319, a320, a321, a322, a323⟩
      · have _q : True := trivial
        exfalso
        omega
      · have _q : True := trivial
        refine jx_ld (pc' := 14) (l' := jSto1 [(0, .ref 66)] 1 (.int (i32 (r283)))) (st' := []) rfl rfl ?_
        obtain ⟨L324, eL324⟩ : ∃ q, q = jSto1 [(0, .ref 66)] 1 (.int (i32 (r283))) := ⟨_, rfl⟩
        rw [← eL324]
        have gL324_0 : jGet L324 0 = some (.ref 66) := eL324 ▸ jg_ne (by decide) (rfl : jGet [(0, .ref 66)] 0 = some (.ref 66)) rfl
        have gL324_1 : jGet L324 1 = some (.int (i32 (r283))) := eL324 ▸ jg_eq
        refine jx_ld (pc' := 15) (l' := L324) (st' := [.ref 66]) rfl (jl_aloadn gL324_0) ?_
        refine jx_ld (pc' := 16) (l' := L324) (st' := [.ref 66, .ref 66]) rfl (jl_aloadn gL324_0) ?_
        refine jx_ar (pc' := 18) (st' := [.int (i32 (93)), .ref 66, .ref 66]) rfl rfl rfl rfl ?_
        have b325 : (-2147483648 : Int) ≤ G281 13 ∧ G281 13 ≤ 2147483647 := hW290.1 13
        refine jx_vr (pc' := 21) (as := [.int (i32 (93))]) (st := [.ref 66]) rfl rfl rfl rfl ⟨rfl, rfl, Nat.le_of_ble_eq_true rfl⟩ rfl rfl (c_is (dd := d) (hd := by omega) (hW := hW290) (k := 93) (tk := tk2_288) (e_tk := show G281 11 = tk2_288 from (e298)) (tn := G281 13) (e_tn := show G281 13 = G281 13 from rfl)  (h_k := ⟨(by decide), (by decide)⟩)  ) (fun o V' hq => ?_)
        obtain ⟨r326, rfl, rfl, b327, q328⟩ := hq
        refine .inr ⟨_, rfl, ?_⟩
        rcases q328 with ⟨rfl, a329, a330, a331⟩ | rfl
        · have _q : True := trivial
          refine jx_vr (pc' := 24) (as := [.int (i32 (1))]) (st := []) rfl rfl rfl rfl ⟨rfl, rfl, Nat.le_of_ble_eq_true rfl⟩ rfl rfl (c_need (dd := d) (hd := by omega) (hW := hW290) (g := 1) (ln := ln) (e_ln := show G281 9 = ln from ((hF291.1 9 rfl).trans ((hF155.1 9 rfl).trans ((hF6.1 9 rfl).trans (e_ln))))) (le := le) (e_le := show A282 4 (ln).toNat = le from (congrFun ((hF291.2 4 rfl).trans ((hF155.2 4 rfl).trans (hF6.2 4 rfl))) _).trans (e_le)) (at0 := at2_284) (e_at0 := show G281 10 = at2_284 from (e294)) (fk := fk2_285) (e_fk := show G281 16 = fk2_285 from (e295)) (tk0 := tk2_288) (e_tk0 := show G281 11 = tk2_288 from (e298))  (h_g := ⟨(by decide), (by decide)⟩)  (p_0 := by omega)) (fun o V' hq => ?_)
          obtain ⟨G332, A333, at2_334, tk2_335, fk2_336, rfl, rfl, hW337, hF338, e339, e340, e341, p342, p343, q344⟩ := hq
          have hF345 := Fr_tr hF307 hF338 (Fr_sub (by decide)) (Fr_sub (by decide))
          have hP346 := Pf_f hP308 hF338 (by decide)
          have ec347 : ecn A333 (G332 31) = ec2_289 := (ecn_f (hF338.2 15 rfl) (hF338.1 31 rfl)).trans e299
          have bat2_334 : (0 : Int) ≤ at2_334 ∧ at2_334 ≤ 3002 := e339 ▸ hW337.1 10
          have ztk2_335 := tz_b tk2_335
          have btk2_335 : (0 : Int) ≤ tk2_335 ∧ tk2_335 ≤ 5 := e340 ▸ hW337.1 11
          have bfk2_336 : (0 : Int) ≤ fk2_336 ∧ fk2_336 ≤ 6 := e341 ▸ hW337.1 16
          refine .inl ⟨rfl, ?_⟩
          rcases q344 with ⟨a348, a349, a350, a351⟩ | ⟨a352, a353, a354, a355⟩
          · have _q : True := trivial
            refine jx_ld (pc' := 25) (l' := L324) (st' := [.ref 66]) rfl (jl_aloadn gL324_0) ?_
            refine jx_ar (pc' := 26) (st' := [.ref 66, .ref 66]) rfl rfl rfl rfl ?_
            refine jr_get (pc' := 29) (i := 15) (v := .int (i32 (op2_286))) rfl rfl (by decide) (rFv_eq (by decide) (show G332 15 = op2_286 from ((hF338.1 15 rfl).trans (e296)))) rfl ?_
            refine jx_ar (pc' := 30) (st' := [.int (i32 (1)), .int (i32 (op2_286)), .ref 66]) rfl rfl rfl rfl ?_
            refine jx_sub (pc' := 31) rfl rfl ?_
            refine jr_put (pc' := 34) (i := 15) (z := (op2_286 - 1)) rfl rfl (by decide) rfl rfl rfl rfl rfl rfl ?_
            have hW356 : Wk (uG G332 15 ((op2_286 - 1))) A333 := Wk_g hW337 (show (-2147483648 : Int) ≤ (op2_286 - 1) by omega) (show (op2_286 - 1) ≤ (2147483647 : Int) by omega)
            have hF357 := Fr_g (z := (op2_286 - 1)) (i := 15) hF345 (by decide)
            have ec358 : ecn A333 ((uG G332 15 ((op2_286 - 1))) 31) = ec2_289 := ec347
            refine jx_ld (pc' := 35) (l' := L324) (st' := [.int (i32 (r283))]) rfl (jl_iloadn gL324_1) ?_
            refine jx_rt (v := some (.int (i32 (r283)))) rfl rfl rfl rfl rfl rfl ?_
            have z359 := tz_f (tk2_335)
            exact ⟨_, _, _, at2_334, fk2_336, (op2_286 - 1), nd2_287, tk2_335, ec2_289, rfl, rfl, hW356, hF357, hP346, by omega, (e339), (e341), rfl, ((hF338.1 31 rfl).trans (e297)), (e340), ec358, by omega, by omega, by omega, by omega, by omega, by omega, by first | exact Or.inl (⟨by omega, by omega, by omega⟩)⟩
          · have _q : True := trivial
            exfalso
            omega
        · have _q : True := trivial
          refine jx_vr (pc' := 24) (as := [.int (i32 (0))]) (st := []) rfl rfl rfl rfl ⟨rfl, rfl, Nat.le_of_ble_eq_true rfl⟩ rfl rfl (c_need (dd := d) (hd := by omega) (hW := hW290) (g := 0) (ln := ln) (e_ln := show G281 9 = ln from ((hF291.1 9 rfl).trans ((hF155.1 9 rfl).trans ((hF6.1 9 rfl).trans (e_ln))))) (le := le) (e_le := show A282 4 (ln).toNat = le from (congrFun ((hF291.2 4 rfl).trans ((hF155.2 4 rfl).trans (hF6.2 4 rfl))) _).trans (e_le)) (at0 := at2_284) (e_at0 := show G281 10 = at2_284 from (e294)) (fk := fk2_285) (e_fk := show G281 16 = fk2_285 from (e295)) (tk0 := tk2_288) (e_tk0 := show G281 11 = tk2_288 from (e298))  (h_g := ⟨(by decide), (by decide)⟩)  (p_0 := by omega)) (fun o V' hq => ?_)
          obtain ⟨G360, A361, at2_362, tk2_363, fk2_364, rfl, rfl, hW365, hF366, e367, e368, e369, p370, p371, q372⟩ := hq
          have hF373 := Fr_tr hF307 hF366 (Fr_sub (by decide)) (Fr_sub (by decide))
          have hP374 := Pf_f hP308 hF366 (by decide)
          have ec375 : ecn A361 (G360 31) = ec2_289 := (ecn_f (hF366.2 15 rfl) (hF366.1 31 rfl)).trans e299
          have bat2_362 : (0 : Int) ≤ at2_362 ∧ at2_362 ≤ 3002 := e367 ▸ hW365.1 10
          have ztk2_363 := tz_b tk2_363
          have btk2_363 : (0 : Int) ≤ tk2_363 ∧ tk2_363 ≤ 5 := e368 ▸ hW365.1 11
          have bfk2_364 : (0 : Int) ≤ fk2_364 ∧ fk2_364 ≤ 6 := e369 ▸ hW365.1 16
          refine .inl ⟨rfl, ?_⟩
          rcases q372 with ⟨a376, a377, a378, a379⟩ | ⟨a380, a381, a382, a383⟩
          · have _q : True := trivial
            refine jx_ld (pc' := 25) (l' := L324) (st' := [.ref 66]) rfl (jl_aloadn gL324_0) ?_
            refine jx_ar (pc' := 26) (st' := [.ref 66, .ref 66]) rfl rfl rfl rfl ?_
            refine jr_get (pc' := 29) (i := 15) (v := .int (i32 (op2_286))) rfl rfl (by decide) (rFv_eq (by decide) (show G360 15 = op2_286 from ((hF366.1 15 rfl).trans (e296)))) rfl ?_
            refine jx_ar (pc' := 30) (st' := [.int (i32 (1)), .int (i32 (op2_286)), .ref 66]) rfl rfl rfl rfl ?_
            refine jx_sub (pc' := 31) rfl rfl ?_
            refine jr_put (pc' := 34) (i := 15) (z := (op2_286 - 1)) rfl rfl (by decide) rfl rfl rfl rfl rfl rfl ?_
            have hW384 : Wk (uG G360 15 ((op2_286 - 1))) A361 := Wk_g hW365 (show (-2147483648 : Int) ≤ (op2_286 - 1) by omega) (show (op2_286 - 1) ≤ (2147483647 : Int) by omega)
            have hF385 := Fr_g (z := (op2_286 - 1)) (i := 15) hF373 (by decide)
            have ec386 : ecn A361 ((uG G360 15 ((op2_286 - 1))) 31) = ec2_289 := ec375
            refine jx_ld (pc' := 35) (l' := L324) (st' := [.int (i32 (r283))]) rfl (jl_iloadn gL324_1) ?_
            refine jx_rt (v := some (.int (i32 (r283)))) rfl rfl rfl rfl rfl rfl ?_
            have z387 := tz_f (tk2_363)
            exact ⟨_, _, _, at2_362, fk2_364, (op2_286 - 1), nd2_287, tk2_363, ec2_289, rfl, rfl, hW384, hF385, hP374, by omega, (e367), (e369), rfl, ((hF366.1 31 rfl).trans (e297)), (e368), ec386, by omega, by omega, by omega, by omega, by omega, by omega, by first | exact Or.inl (⟨by omega, by omega, by omega⟩)⟩
          · have _q : True := trivial
            exfalso
            omega
      · have _q : True := trivial
        refine jx_ld (pc' := 14) (l' := jSto1 [(0, .ref 66)] 1 (.int (i32 (r283)))) (st' := []) rfl rfl ?_
        obtain ⟨L388, eL388⟩ : ∃ q, q = jSto1 [(0, .ref 66)] 1 (.int (i32 (r283))) := ⟨_, rfl⟩
        rw [← eL388]
        have gL388_0 : jGet L388 0 = some (.ref 66) := eL388 ▸ jg_ne (by decide) (rfl : jGet [(0, .ref 66)] 0 = some (.ref 66)) rfl
        have gL388_1 : jGet L388 1 = some (.int (i32 (r283))) := eL388 ▸ jg_eq
        refine jx_ld (pc' := 15) (l' := L388) (st' := [.ref 66]) rfl (jl_aloadn gL388_0) ?_
        refine jx_ld (pc' := 16) (l' := L388) (st' := [.ref 66, .ref 66]) rfl (jl_aloadn gL388_0) ?_
        refine jx_ar (pc' := 18) (st' := [.int (i32 (93)), .ref 66, .ref 66]) rfl rfl rfl rfl ?_
        have b389 : (-2147483648 : Int) ≤ G281 13 ∧ G281 13 ≤ 2147483647 := hW290.1 13
        refine jx_vr (pc' := 21) (as := [.int (i32 (93))]) (st := [.ref 66]) rfl rfl rfl rfl ⟨rfl, rfl, Nat.le_of_ble_eq_true rfl⟩ rfl rfl (c_is (dd := d) (hd := by omega) (hW := hW290) (k := 93) (tk := tk2_288) (e_tk := show G281 11 = tk2_288 from (e298)) (tn := G281 13) (e_tn := show G281 13 = G281 13 from rfl)  (h_k := ⟨(by decide), (by decide)⟩)  ) (fun o V' hq => ?_)
        obtain ⟨r390, rfl, rfl, b391, q392⟩ := hq
        refine .inr ⟨_, rfl, ?_⟩
        rcases q392 with ⟨rfl, a393, a394, a395⟩ | rfl
        · have _q : True := trivial
          refine jx_vr (pc' := 24) (as := [.int (i32 (1))]) (st := []) rfl rfl rfl rfl ⟨rfl, rfl, Nat.le_of_ble_eq_true rfl⟩ rfl rfl (c_need (dd := d) (hd := by omega) (hW := hW290) (g := 1) (ln := ln) (e_ln := show G281 9 = ln from ((hF291.1 9 rfl).trans ((hF155.1 9 rfl).trans ((hF6.1 9 rfl).trans (e_ln))))) (le := le) (e_le := show A282 4 (ln).toNat = le from (congrFun ((hF291.2 4 rfl).trans ((hF155.2 4 rfl).trans (hF6.2 4 rfl))) _).trans (e_le)) (at0 := at2_284) (e_at0 := show G281 10 = at2_284 from (e294)) (fk := fk2_285) (e_fk := show G281 16 = fk2_285 from (e295)) (tk0 := tk2_288) (e_tk0 := show G281 11 = tk2_288 from (e298))  (h_g := ⟨(by decide), (by decide)⟩)  (p_0 := by omega)) (fun o V' hq => ?_)
          obtain ⟨G396, A397, at2_398, tk2_399, fk2_400, rfl, rfl, hW401, hF402, e403, e404, e405, p406, p407, q408⟩ := hq
          have hF409 := Fr_tr hF307 hF402 (Fr_sub (by decide)) (Fr_sub (by decide))
          have hP410 := Pf_f hP308 hF402 (by decide)
          have sf411 : wE A397 Vs sb (2 * k + 2) (r283) (nd) (nd2_287) := wE_ag (by omega) (Sg_fr hF402 (by decide)) (Ag_fr hF402 (by decide)) a321
          have ec412 : ecn A397 (G396 31) = ec2_289 := (ecn_f (hF402.2 15 rfl) (hF402.1 31 rfl)).trans e299
          have bat2_398 : (0 : Int) ≤ at2_398 ∧ at2_398 ≤ 3002 := e403 ▸ hW401.1 10
          have ztk2_399 := tz_b tk2_399
          have btk2_399 : (0 : Int) ≤ tk2_399 ∧ tk2_399 ≤ 5 := e404 ▸ hW401.1 11
          have bfk2_400 : (0 : Int) ≤ fk2_400 ∧ fk2_400 ≤ 6 := e405 ▸ hW401.1 16
          refine .inl ⟨rfl, ?_⟩
          rcases q408 with ⟨a413, a414, a415, a416⟩ | ⟨a417, a418, a419, a420⟩
          · have _q : True := trivial
            refine jx_ld (pc' := 25) (l' := L388) (st' := [.ref 66]) rfl (jl_aloadn gL388_0) ?_
            refine jx_ar (pc' := 26) (st' := [.ref 66, .ref 66]) rfl rfl rfl rfl ?_
            refine jr_get (pc' := 29) (i := 15) (v := .int (i32 (op2_286))) rfl rfl (by decide) (rFv_eq (by decide) (show G396 15 = op2_286 from ((hF402.1 15 rfl).trans (e296)))) rfl ?_
            refine jx_ar (pc' := 30) (st' := [.int (i32 (1)), .int (i32 (op2_286)), .ref 66]) rfl rfl rfl rfl ?_
            refine jx_sub (pc' := 31) rfl rfl ?_
            refine jr_put (pc' := 34) (i := 15) (z := (op2_286 - 1)) rfl rfl (by decide) rfl rfl rfl rfl rfl rfl ?_
            have hW421 : Wk (uG G396 15 ((op2_286 - 1))) A397 := Wk_g hW401 (show (-2147483648 : Int) ≤ (op2_286 - 1) by omega) (show (op2_286 - 1) ≤ (2147483647 : Int) by omega)
            have hF422 := Fr_g (z := (op2_286 - 1)) (i := 15) hF409 (by decide)
            have ec423 : ecn A397 ((uG G396 15 ((op2_286 - 1))) 31) = ec2_289 := ec412
            refine jx_ld (pc' := 35) (l' := L388) (st' := [.int (i32 (r283))]) rfl (jl_iloadn gL388_1) ?_
            refine jx_rt (v := some (.int (i32 (r283)))) rfl rfl rfl rfl rfl rfl ?_
            have z424 := tz_f (tk2_399)
            exact ⟨_, _, _, at2_398, fk2_400, (op2_286 - 1), nd2_287, tk2_399, ec2_289, rfl, rfl, hW421, hF422, hP410, by omega, (e403), (e405), rfl, ((hF402.1 31 rfl).trans (e297)), (e404), ec423, by omega, by omega, by omega, by omega, by omega, by omega, by first | exact Or.inl (⟨by omega, by omega, by omega⟩)⟩
          · have _q : True := trivial
            have pz425 : at2_284 + tz tk2_399 ≤ at2_398 := by omega
            refine jx_ld (pc' := 25) (l' := L388) (st' := [.ref 66]) rfl (jl_aloadn gL388_0) ?_
            refine jx_ar (pc' := 26) (st' := [.ref 66, .ref 66]) rfl rfl rfl rfl ?_
            refine jr_get (pc' := 29) (i := 15) (v := .int (i32 (op2_286))) rfl rfl (by decide) (rFv_eq (by decide) (show G396 15 = op2_286 from ((hF402.1 15 rfl).trans (e296)))) rfl ?_
            refine jx_ar (pc' := 30) (st' := [.int (i32 (1)), .int (i32 (op2_286)), .ref 66]) rfl rfl rfl rfl ?_
            refine jx_sub (pc' := 31) rfl rfl ?_
            refine jr_put (pc' := 34) (i := 15) (z := (op2_286 - 1)) rfl rfl (by decide) rfl rfl rfl rfl rfl rfl ?_
            have hW426 : Wk (uG G396 15 ((op2_286 - 1))) A397 := Wk_g hW401 (show (-2147483648 : Int) ≤ (op2_286 - 1) by omega) (show (op2_286 - 1) ≤ (2147483647 : Int) by omega)
            have hF427 := Fr_g (z := (op2_286 - 1)) (i := 15) hF409 (by decide)
            have ec428 : ecn A397 ((uG G396 15 ((op2_286 - 1))) 31) = ec2_289 := ec412
            refine jx_ld (pc' := 35) (l' := L388) (st' := [.int (i32 (r283))]) rfl (jl_iloadn gL388_1) ?_
            refine jx_rt (v := some (.int (i32 (r283)))) rfl rfl rfl rfl rfl rfl ?_
            have z429 := tz_f (tk2_399)
            exact ⟨_, _, _, at2_398, fk2_400, (op2_286 - 1), nd2_287, tk2_399, ec2_289, rfl, rfl, hW426, hF427, hP410, by omega, (e403), (e405), rfl, ((hF402.1 31 rfl).trans (e297)), (e404), ec428, by omega, by omega, by omega, by omega, by omega, by omega, by first | exact Or.inr ((⟨by omega, by omega, by omega, sf411, by omega⟩))⟩
        · have _q : True := trivial
          refine jx_vr (pc' := 24) (as := [.int (i32 (0))]) (st := []) rfl rfl rfl rfl ⟨rfl, rfl, Nat.le_of_ble_eq_true rfl⟩ rfl rfl (c_need (dd := d) (hd := by omega) (hW := hW290) (g := 0) (ln := ln) (e_ln := show G281 9 = ln from ((hF291.1 9 rfl).trans ((hF155.1 9 rfl).trans ((hF6.1 9 rfl).trans (e_ln))))) (le := le) (e_le := show A282 4 (ln).toNat = le from (congrFun ((hF291.2 4 rfl).trans ((hF155.2 4 rfl).trans (hF6.2 4 rfl))) _).trans (e_le)) (at0 := at2_284) (e_at0 := show G281 10 = at2_284 from (e294)) (fk := fk2_285) (e_fk := show G281 16 = fk2_285 from (e295)) (tk0 := tk2_288) (e_tk0 := show G281 11 = tk2_288 from (e298))  (h_g := ⟨(by decide), (by decide)⟩)  (p_0 := by omega)) (fun o V' hq => ?_)
          obtain ⟨G430, A431, at2_432, tk2_433, fk2_434, rfl, rfl, hW435, hF436, e437, e438, e439, p440, p441, q442⟩ := hq
          have hF443 := Fr_tr hF307 hF436 (Fr_sub (by decide)) (Fr_sub (by decide))
          have hP444 := Pf_f hP308 hF436 (by decide)
          have sf445 : wE A431 Vs sb (2 * k + 2) (r283) (nd) (nd2_287) := wE_ag (by omega) (Sg_fr hF436 (by decide)) (Ag_fr hF436 (by decide)) a321
          have ec446 : ecn A431 (G430 31) = ec2_289 := (ecn_f (hF436.2 15 rfl) (hF436.1 31 rfl)).trans e299
          have bat2_432 : (0 : Int) ≤ at2_432 ∧ at2_432 ≤ 3002 := e437 ▸ hW435.1 10
          have ztk2_433 := tz_b tk2_433
          have btk2_433 : (0 : Int) ≤ tk2_433 ∧ tk2_433 ≤ 5 := e438 ▸ hW435.1 11
          have bfk2_434 : (0 : Int) ≤ fk2_434 ∧ fk2_434 ≤ 6 := e439 ▸ hW435.1 16
          refine .inl ⟨rfl, ?_⟩
          rcases q442 with ⟨a447, a448, a449, a450⟩ | ⟨a451, a452, a453, a454⟩
          · have _q : True := trivial
            refine jx_ld (pc' := 25) (l' := L388) (st' := [.ref 66]) rfl (jl_aloadn gL388_0) ?_
            refine jx_ar (pc' := 26) (st' := [.ref 66, .ref 66]) rfl rfl rfl rfl ?_
            refine jr_get (pc' := 29) (i := 15) (v := .int (i32 (op2_286))) rfl rfl (by decide) (rFv_eq (by decide) (show G430 15 = op2_286 from ((hF436.1 15 rfl).trans (e296)))) rfl ?_
            refine jx_ar (pc' := 30) (st' := [.int (i32 (1)), .int (i32 (op2_286)), .ref 66]) rfl rfl rfl rfl ?_
            refine jx_sub (pc' := 31) rfl rfl ?_
            refine jr_put (pc' := 34) (i := 15) (z := (op2_286 - 1)) rfl rfl (by decide) rfl rfl rfl rfl rfl rfl ?_
            have hW455 : Wk (uG G430 15 ((op2_286 - 1))) A431 := Wk_g hW435 (show (-2147483648 : Int) ≤ (op2_286 - 1) by omega) (show (op2_286 - 1) ≤ (2147483647 : Int) by omega)
            have hF456 := Fr_g (z := (op2_286 - 1)) (i := 15) hF443 (by decide)
            have ec457 : ecn A431 ((uG G430 15 ((op2_286 - 1))) 31) = ec2_289 := ec446
            refine jx_ld (pc' := 35) (l' := L388) (st' := [.int (i32 (r283))]) rfl (jl_iloadn gL388_1) ?_
            refine jx_rt (v := some (.int (i32 (r283)))) rfl rfl rfl rfl rfl rfl ?_
            have z458 := tz_f (tk2_433)
            exact ⟨_, _, _, at2_432, fk2_434, (op2_286 - 1), nd2_287, tk2_433, ec2_289, rfl, rfl, hW455, hF456, hP444, by omega, (e437), (e439), rfl, ((hF436.1 31 rfl).trans (e297)), (e438), ec457, by omega, by omega, by omega, by omega, by omega, by omega, by first | exact Or.inl (⟨by omega, by omega, by omega⟩)⟩
          · have _q : True := trivial
            exfalso
            omega
set_option maxRecDepth 20000 in
set_option maxHeartbeats 4000000 in
theorem c_readValue_w {X : jX} {k : Nat} (hE : REw X k) {dd : Nat} {Vs : Nat → Prop} {sb : Int} {c0 c1 : jC} {G : Nat → Int} {A : Nat → Nat → Int} {T : jH} {s place : Int} {ln le at0 fk op0 nd tk0 ec : Int} (hd : 6 * k + 13 ≤ dd) (hW : Wk G A) (e_ln : G 9 = ln) (e_le : A 4 (ln).toNat = le) (e_at0 : G 10 = at0) (e_fk : G 16 = fk) (e_op0 : G 15 = op0) (e_nd : G 31 = nd) (e_tk0 : G 11 = tk0) (e_ec : ecn A (G 31) = ec) (i_SV : SV Vs sb G A) (h_s : (-2147483648 : Int) ≤ s ∧ s ≤ 2147483647) (h_place : (-2147483648 : Int) ≤ place ∧ place ≤ 2147483647) (p_0 : 0 ≤ op0) (p_1 : op0 ≤ 9) (p_2 : op0 ≤ 8 ∨ 1 ≤ fk) (p_3 : 9 - op0 ≤ ((k + 1 : Nat) : Int) ∨ 1 ≤ fk) (p_4 : nd ≤ 2 * at0 - tz tk0 + 50) (p_5 : at0 ≤ le) (p_6 : op0 ≤ 8) (p_7 : fk = 0) (p_8 : 0 ≤ s ∧ s ≤ 201) (p_9 : -3000 ≤ place ∧ place ≤ 3002) (p_10 : SY Vs sb (s)) : wk X dd 289 [.ref 66, .int (i32 s), .int (i32 place)] (rV c0 c1 G A T) (fun o V' => ∃ (G' : Nat → Int) (A' : Nat → Nat → Int) (r : Int) (at2 : Int) (fk2 : Int) (op2 : Int) (nd2 : Int) (tk2 : Int) (ec2 : Int), V' = rV c0 c1 G' A' T ∧ o = .inl (some (.int (i32 r))) ∧ Wk G' A' ∧ Fr [10, 11, 12, 13, 14, 15, 16, 17, 18, 31] [15, 16, 17, 18, 19, 20, 21, 22, 24, 28] G A G' A' ∧ Pf nd A A' ∧ ((-2147483648 : Int) ≤ r ∧ r ≤ 2147483647) ∧ G' 10 = at2 ∧ G' 16 = fk2 ∧ G' 15 = op2 ∧ G' 31 = nd2 ∧ G' 11 = tk2 ∧ ecn A' (G' 31) = ec2 ∧ (at0 ≤ at2) ∧ (at2 ≤ le) ∧ (nd ≤ nd2) ∧ (op2 = op0) ∧ (0 ≤ r) ∧ (r ≤ nd2) ∧ (((fk = 0) ∧ (1 ≤ fk2) ∧ (nd2 - nd ≤ (2 * at2 - tz tk2) - (2 * at0 - tz tk0) + 2)) ∨ ((fk = 0) ∧ (fk2 = 0) ∧ (nd2 - nd ≤ (2 * at2 - tz tk2) - (2 * at0 - tz tk0) + 1) ∧ (wE A' Vs sb (2 * k + 3) (r) (nd) (nd2)) ∧ (nd2 - nd + 5 * (ec2 - ec) ≤ (2 * at2 - tz tk2) - (2 * at0 - tz tk0) + 1 + tz tk0 - tz tk2)))) := by
  obtain ⟨d, rfl⟩ : ∃ d, dd = d + 1 := ⟨dd - 1, by omega⟩
  refine wk_of (e := jm289) rfl (Nat.le_of_ble_eq_true rfl) ?_
  show wj X d jm289 (0, [(0, .ref 66), (1, .int (i32 (s))), (2, .int (i32 (place)))], [], rV c0 c1 G A T) _
  have hF0 : Fr [10, 11, 12, 13, 14, 15, 16, 17, 18, 31] [15, 16, 17, 18, 19, 20, 21, 22, 24, 28] G A G A := Fr_rf
  have hP0 : Pf nd A A := Pf_rf
  have b_ln : (0 : Int) ≤ ln ∧ ln ≤ 3000 := e_ln ▸ hW.1 9
  have b_le : (0 : Int) ≤ le ∧ le ≤ 3000 := e_le ▸ hW.2 4 _
  have b_at0 : (0 : Int) ≤ at0 ∧ at0 ≤ 3002 := e_at0 ▸ hW.1 10
  have b_fk : (0 : Int) ≤ fk ∧ fk ≤ 6 := e_fk ▸ hW.1 16
  have b_op0 : (-2147483648 : Int) ≤ op0 ∧ op0 ≤ 2147483647 := e_op0 ▸ hW.1 15
  have b_nd : (0 : Int) ≤ nd ∧ nd ≤ 6999 := e_nd ▸ hW.1 31
  have z_tk0 := tz_f tk0
  have b_tk0 : (0 : Int) ≤ tk0 ∧ tk0 ≤ 5 := e_tk0 ▸ hW.1 11
  refine jx_ld (pc' := 1) (l' := [(0, .ref 66), (1, .int (i32 (s))), (2, .int (i32 (place)))]) (st' := [.ref 66]) rfl (jl_aloadn rfl) ?_
  refine jx_ar (pc' := 3) (st' := [.int (i32 (91)), .ref 66]) rfl rfl rfl rfl ?_
  have b1 : (-2147483648 : Int) ≤ G 13 ∧ G 13 ≤ 2147483647 := hW.1 13
  refine jx_vr (pc' := 6) (as := [.int (i32 (91))]) (st := []) rfl rfl rfl rfl ⟨rfl, rfl, Nat.le_of_ble_eq_true rfl⟩ rfl rfl (c_is (dd := d) (hd := by omega) (hW := hW) (k := 91) (tk := tk0) (e_tk := show G 11 = tk0 from (e_tk0)) (tn := G 13) (e_tn := show G 13 = G 13 from rfl)  (h_k := ⟨(by decide), (by decide)⟩)  ) (fun o V' hq => ?_)
  obtain ⟨r2, rfl, rfl, b3, q4⟩ := hq
  refine .inr ⟨_, rfl, ?_⟩
  rcases q4 with ⟨rfl, a5, a6, a7⟩ | rfl
  · have _q : True := trivial
    refine jx_if_eq (pc' := 9) (tg := 44) rfl rfl rfl (by decide) (by decide) (fun h8 => ?_) (fun h8 => ?_)
    · have _q := h8
      exact absurd h8 (by omega)
    · have _q := h8
      refine jx_ld (pc' := 10) (l' := [(0, .ref 66), (1, .int (i32 (s))), (2, .int (i32 (place)))]) (st' := [.ref 66]) rfl (jl_aloadn rfl) ?_
      refine jr_get (pc' := 13) (i := 21) (v := .ref 74) rfl rfl (by decide) rfl rfl ?_
      refine jx_ld (pc' := 14) (l' := [(0, .ref 66), (1, .int (i32 (s))), (2, .int (i32 (place)))]) (st' := [.int (i32 (s)), .ref 74]) rfl (jl_iloadn rfl) ?_
      have b9 : (0 : Int) ≤ A 7 (s).toNat ∧ A 7 (s).toNat ≤ 14 := hW.2 7 _
      refine jr_ldv (pc' := 15) (i := 7) (m := 260) (z := s) (y := A 7 (s).toNat) rfl (by decide) rfl (by decide) (by omega) (by omega) rfl (show A 7 (s).toNat = A 7 (s).toNat from rfl) ?_
      refine jx_st (pc' := 18) (as := [.int (i32 (A 7 (s).toNat))]) (st := []) rfl rfl ⟨rfl, Nat.le_of_ble_eq_true rfl⟩ rfl rfl rfl (c_isArray (dd := d) (hd := by omega) (k := A 7 (s).toNat)   (h_k := ⟨(Int.le_trans (by decide : (-2147483648 : Int) ≤ 0) b9.1), (Int.le_trans b9.2 (by decide : (14 : Int) ≤ 2147483647))⟩)  ) (fun o V' hq => ?_)
      obtain ⟨r10, rfl, rfl, b11, q12⟩ := hq
      refine .inr ⟨_, rfl, ?_⟩
      rcases q12 with ⟨rfl, a13⟩ | rfl
      · have _q : True := trivial
        refine jx_if_ne (pc' := 21) (tg := 29) rfl rfl rfl (by decide) (by decide) (fun h14 => ?_) (fun h14 => ?_)
        · have _q := h14
          refine jx_ld (pc' := 30) (l' := [(0, .ref 66), (1, .int (i32 (s))), (2, .int (i32 (place)))]) (st' := [.ref 66]) rfl (jl_aloadn rfl) ?_
          refine jx_vr (pc' := 33) (as := []) (st := []) rfl rfl rfl rfl ⟨rfl, rfl, Nat.le_of_ble_eq_true rfl⟩ rfl rfl (c_readIndex_w (dd := d) (hE := hE) (hd := by omega) (hW := hW)  (ln := ln) (e_ln := show G 9 = ln from (e_ln)) (le := le) (e_le := show A 4 (ln).toNat = le from (e_le)) (at0 := at0) (e_at0 := show G 10 = at0 from (e_at0)) (fk := fk) (e_fk := show G 16 = fk from (e_fk)) (op0 := op0) (e_op0 := show G 15 = op0 from (e_op0)) (nd := nd) (e_nd := show G 31 = nd from (e_nd)) (tk0 := tk0) (e_tk0 := show G 11 = tk0 from (e_tk0)) (ec := ec) (e_ec := show ecn A (G 31) = ec from e_ec) (i_SV := (SV_ext (rfl) (rfl) i_SV))   (p_0 := by omega) (p_1 := by omega) (p_2 := by omega) (p_3 := by omega) (p_4 := by omega) (p_5 := by omega) (p_6 := by omega) (p_7 := by omega) (p_8 := by omega)) (fun o V' hq => ?_)
          obtain ⟨G15, A16, r17, at2_18, fk2_19, op2_20, nd2_21, tk2_22, ec2_23, rfl, rfl, hW24, hF25, hQ26, b27, e28, e29, e30, e31, e32, e33, p34, p35, p36, p37, p38, p39, q40⟩ := hq
          have hF41 := Fr_tr hF0 hF25 (Fr_sub (by decide)) (Fr_sub (by decide))
          have hP42 := Pf_tr hP0 hQ26 (by omega)
          have bat2_18 : (0 : Int) ≤ at2_18 ∧ at2_18 ≤ 3002 := e28 ▸ hW24.1 10
          have bfk2_19 : (0 : Int) ≤ fk2_19 ∧ fk2_19 ≤ 6 := e29 ▸ hW24.1 16
          have bop2_20 : (-2147483648 : Int) ≤ op2_20 ∧ op2_20 ≤ 2147483647 := e30 ▸ hW24.1 15
          have bnd2_21 : (0 : Int) ≤ nd2_21 ∧ nd2_21 ≤ 6999 := e31 ▸ hW24.1 31
          have ztk2_22 := tz_b tk2_22
          have btk2_22 : (0 : Int) ≤ tk2_22 ∧ tk2_22 ≤ 5 := e32 ▸ hW24.1 11
          refine .inr ⟨_, rfl, ?_⟩
          rcases q40 with ⟨a43, a44, a45⟩ | ⟨a46, a47, a48, a49, a50⟩
          · have _q : True := trivial
            refine jx_ld (pc' := 34) (l' := jSto1 [(0, .ref 66), (1, .int (i32 (s))), (2, .int (i32 (place)))] 3 (.int (i32 (r17)))) (st' := []) rfl rfl ?_
            obtain ⟨L51, eL51⟩ : ∃ q, q = jSto1 [(0, .ref 66), (1, .int (i32 (s))), (2, .int (i32 (place)))] 3 (.int (i32 (r17))) := ⟨_, rfl⟩
            rw [← eL51]
            have gL51_0 : jGet L51 0 = some (.ref 66) := eL51 ▸ jg_ne (by decide) (rfl : jGet [(0, .ref 66), (1, .int (i32 (s))), (2, .int (i32 (place)))] 0 = some (.ref 66)) rfl
            have gL51_1 : jGet L51 1 = some (.int (i32 (s))) := eL51 ▸ jg_ne (by decide) (rfl : jGet [(0, .ref 66), (1, .int (i32 (s))), (2, .int (i32 (place)))] 1 = some (.int (i32 (s)))) rfl
            have gL51_2 : jGet L51 2 = some (.int (i32 (place))) := eL51 ▸ jg_ne (by decide) (rfl : jGet [(0, .ref 66), (1, .int (i32 (s))), (2, .int (i32 (place)))] 2 = some (.int (i32 (place)))) rfl
            have gL51_3 : jGet L51 3 = some (.int (i32 (r17))) := eL51 ▸ jg_eq
            refine jx_ld (pc' := 35) (l' := L51) (st' := [.ref 66]) rfl (jl_aloadn gL51_0) ?_
            refine jx_ar (pc' := 36) (st' := [.int (i32 (3)), .ref 66]) rfl rfl rfl rfl ?_
            refine jx_ld (pc' := 37) (l' := L51) (st' := [.int (i32 (s)), .int (i32 (3)), .ref 66]) rfl (jl_iloadn gL51_1) ?_
            refine jx_ld (pc' := 38) (l' := L51) (st' := [.int (i32 (r17)), .int (i32 (s)), .int (i32 (3)), .ref 66]) rfl (jl_iloadn gL51_3) ?_
            refine jx_ar (pc' := 39) (st' := [.int (i32 (0)), .int (i32 (r17)), .int (i32 (s)), .int (i32 (3)), .ref 66]) rfl rfl rfl rfl ?_
            refine jx_ar (pc' := 40) (st' := [.int (i32 (0)), .int (i32 (0)), .int (i32 (r17)), .int (i32 (s)), .int (i32 (3)), .ref 66]) rfl rfl rfl rfl ?_
            refine jx_vr (pc' := 43) (as := [.int (i32 (3)), .int (i32 (s)), .int (i32 (r17)), .int (i32 (0)), .int (i32 (0))]) (st := []) rfl rfl rfl rfl ⟨rfl, rfl, Nat.le_of_ble_eq_true rfl⟩ rfl rfl (c_node_e (dd := d) (hd := by omega) (hW := hW24) (kind := 3) (a := s) (b := r17) (c := 0) (e := 0) (nd := nd2_21) (e_nd := show G15 31 = nd2_21 from (e31)) (ec := ec2_23) (e_ec := show ecn A16 (G15 31) = ec2_23 from e33)  (h_kind := ⟨(by decide), (by decide)⟩) (h_a := ⟨(Int.le_trans (by decide : (-2147483648 : Int) ≤ -2147483648) h_s.1), (Int.le_trans h_s.2 (by decide : (2147483647 : Int) ≤ 2147483647))⟩) (h_b := ⟨(Int.le_trans (by decide : (-2147483648 : Int) ≤ -2147483648) b27.1), (Int.le_trans b27.2 (by decide : (2147483647 : Int) ≤ 2147483647))⟩) (h_c := ⟨(by decide), (by decide)⟩) (h_e := ⟨(by decide), (by decide)⟩)  (p_0 := by omega) (p_1 := by omega) (p_2 := by omega)) (fun o V' hq => ?_)
            obtain ⟨G52, A53, nd2_54, ec2_55, rfl, rfl, hW56, hF57, hQ58, e59, e60, p61, p62, p63, -⟩ := hq
            have hF65 := Fr_tr hF41 hF57 (Fr_sub (by decide)) (Fr_sub (by decide))
            have hP66 := Pf_tr hP42 hQ58 (by omega)
            have bnd2_54 : (0 : Int) ≤ nd2_54 ∧ nd2_54 ≤ 6999 := e59 ▸ hW56.1 31
            refine .inr ⟨_, rfl, ?_⟩
            refine jx_rt (v := some (.int (i32 (nd2_21)))) rfl rfl rfl rfl rfl rfl ?_
            have z67 := tz_f (tk2_22)
            exact ⟨_, _, _, at2_18, fk2_19, op2_20, nd2_54, tk2_22, ec2_55, rfl, rfl, hW56, hF65, hP66, by omega, ((hF57.1 10 rfl).trans (e28)), ((hF57.1 16 rfl).trans (e29)), ((hF57.1 15 rfl).trans (e30)), (e59), ((hF57.1 11 rfl).trans (e32)), e60, by omega, by omega, by omega, by omega, by omega, by omega, by first | exact Or.inl (⟨by omega, by omega, by omega⟩)⟩
          · have _q : True := trivial
            refine jx_ld (pc' := 34) (l' := jSto1 [(0, .ref 66), (1, .int (i32 (s))), (2, .int (i32 (place)))] 3 (.int (i32 (r17)))) (st' := []) rfl rfl ?_
            obtain ⟨L68, eL68⟩ : ∃ q, q = jSto1 [(0, .ref 66), (1, .int (i32 (s))), (2, .int (i32 (place)))] 3 (.int (i32 (r17))) := ⟨_, rfl⟩
            rw [← eL68]
            have gL68_0 : jGet L68 0 = some (.ref 66) := eL68 ▸ jg_ne (by decide) (rfl : jGet [(0, .ref 66), (1, .int (i32 (s))), (2, .int (i32 (place)))] 0 = some (.ref 66)) rfl
            have gL68_1 : jGet L68 1 = some (.int (i32 (s))) := eL68 ▸ jg_ne (by decide) (rfl : jGet [(0, .ref 66), (1, .int (i32 (s))), (2, .int (i32 (place)))] 1 = some (.int (i32 (s)))) rfl
            have gL68_2 : jGet L68 2 = some (.int (i32 (place))) := eL68 ▸ jg_ne (by decide) (rfl : jGet [(0, .ref 66), (1, .int (i32 (s))), (2, .int (i32 (place)))] 2 = some (.int (i32 (place)))) rfl
            have gL68_3 : jGet L68 3 = some (.int (i32 (r17))) := eL68 ▸ jg_eq
            refine jx_ld (pc' := 35) (l' := L68) (st' := [.ref 66]) rfl (jl_aloadn gL68_0) ?_
            refine jx_ar (pc' := 36) (st' := [.int (i32 (3)), .ref 66]) rfl rfl rfl rfl ?_
            refine jx_ld (pc' := 37) (l' := L68) (st' := [.int (i32 (s)), .int (i32 (3)), .ref 66]) rfl (jl_iloadn gL68_1) ?_
            refine jx_ld (pc' := 38) (l' := L68) (st' := [.int (i32 (r17)), .int (i32 (s)), .int (i32 (3)), .ref 66]) rfl (jl_iloadn gL68_3) ?_
            refine jx_ar (pc' := 39) (st' := [.int (i32 (0)), .int (i32 (r17)), .int (i32 (s)), .int (i32 (3)), .ref 66]) rfl rfl rfl rfl ?_
            refine jx_ar (pc' := 40) (st' := [.int (i32 (0)), .int (i32 (0)), .int (i32 (r17)), .int (i32 (s)), .int (i32 (3)), .ref 66]) rfl rfl rfl rfl ?_
            refine jx_vr (pc' := 43) (as := [.int (i32 (3)), .int (i32 (s)), .int (i32 (r17)), .int (i32 (0)), .int (i32 (0))]) (st := []) rfl rfl rfl rfl ⟨rfl, rfl, Nat.le_of_ble_eq_true rfl⟩ rfl rfl (c_node_e (dd := d) (hd := by omega) (hW := hW24) (kind := 3) (a := s) (b := r17) (c := 0) (e := 0) (nd := nd2_21) (e_nd := show G15 31 = nd2_21 from (e31)) (ec := ec2_23) (e_ec := show ecn A16 (G15 31) = ec2_23 from e33)  (h_kind := ⟨(by decide), (by decide)⟩) (h_a := ⟨(Int.le_trans (by decide : (-2147483648 : Int) ≤ -2147483648) h_s.1), (Int.le_trans h_s.2 (by decide : (2147483647 : Int) ≤ 2147483647))⟩) (h_b := ⟨(Int.le_trans (by decide : (-2147483648 : Int) ≤ -2147483648) b27.1), (Int.le_trans b27.2 (by decide : (2147483647 : Int) ≤ 2147483647))⟩) (h_c := ⟨(by decide), (by decide)⟩) (h_e := ⟨(by decide), (by decide)⟩)  (p_0 := by omega) (p_1 := by omega) (p_2 := by omega)) (fun o V' hq => ?_)
            obtain ⟨G69, A70, nd2_71, ec2_72, rfl, rfl, hW73, hF74, hQ75, e76, e77, p78, p79, p80, -⟩ := hq
            have hF82 := Fr_tr hF41 hF74 (Fr_sub (by decide)) (Fr_sub (by decide))
            have hP83 := Pf_tr hP42 hQ75 (by omega)
            have sf84 : wE A70 Vs sb (2 * k + 2) (r17) (nd) (nd2_21) := wE_ag (by omega) (Sg_fr hF74 (by decide)) (Ag_pf hQ75 (by omega)) a49
            have bnd2_71 : (0 : Int) ≤ nd2_71 ∧ nd2_71 ≤ 6999 := e76 ▸ hW73.1 31
            refine .inr ⟨_, rfl, ?_⟩
            refine jx_rt (v := some (.int (i32 (nd2_21)))) rfl rfl rfl rfl rfl rfl ?_
            have z85 := tz_f (tk2_22)
            exact ⟨_, _, _, at2_18, fk2_19, op2_20, nd2_71, tk2_22, ec2_72, rfl, rfl, hW73, hF82, hP83, by omega, ((hF74.1 10 rfl).trans (e28)), ((hF74.1 16 rfl).trans (e29)), ((hF74.1 15 rfl).trans (e30)), (e76), ((hF74.1 11 rfl).trans (e32)), e77, by omega, by omega, by omega, by omega, by omega, by omega, by first | exact Or.inr ((⟨by omega, by omega, by omega, (wE_elem p80 (by omega) (by omega) p_10 (kq (P := kArr) (show A70 7 (s).toNat = A 7 (s).toNat from (congrFun ((hF74.2 7 rfl).trans (hF25.2 7 rfl)) _)) a13) (wE_mono (by omega) (by omega) (by omega) sf84)), by omega⟩))⟩
        · have _q := h14
          exact absurd h14 (by omega)
      · have _q : True := trivial
        refine jx_if_ne (pc' := 21) (tg := 29) rfl rfl rfl (by decide) (by decide) (fun h86 => ?_) (fun h86 => ?_)
        · have _q := h86
          exact absurd h86 (by omega)
        · have _q := h86
          refine jx_ld (pc' := 22) (l' := [(0, .ref 66), (1, .int (i32 (s))), (2, .int (i32 (place)))]) (st' := [.ref 66]) rfl (jl_aloadn rfl) ?_
          refine jx_ar (pc' := 23) (st' := [.int (i32 (4)), .ref 66]) rfl rfl rfl rfl ?_
          refine jx_ld (pc' := 24) (l' := [(0, .ref 66), (1, .int (i32 (s))), (2, .int (i32 (place)))]) (st' := [.int (i32 (place)), .int (i32 (4)), .ref 66]) rfl (jl_iloadn rfl) ?_
          refine jx_vr (pc' := 27) (as := [.int (i32 (4)), .int (i32 (place))]) (st := []) rfl rfl rfl rfl ⟨rfl, rfl, Nat.le_of_ble_eq_true rfl⟩ rfl rfl (c_fail (dd := d) (hd := by omega) (hW := hW) (kind := 4) (place := place) (fk := fk) (e_fk := show G 16 = fk from (e_fk))  (h_kind := ⟨(by decide), (by decide)⟩) (h_place := ⟨(Int.le_trans (by decide : (-2147483648 : Int) ≤ -2147483648) h_place.1), (Int.le_trans h_place.2 (by decide : (2147483647 : Int) ≤ 2147483647))⟩)  (p_0 := by omega) (p_1 := by omega)) (fun o V' hq => ?_)
          obtain ⟨G87, A88, fk2_89, rfl, rfl, hW90, hF91, e92, p93, -⟩ := hq
          have hF95 := Fr_tr hF0 hF91 (Fr_sub (by decide)) (Fr_sub (by decide))
          have hP96 := Pf_f hP0 hF91 (by decide)
          have ec97 : ecn A88 (G87 31) = ec := (ecn_f (hF91.2 15 rfl) (hF91.1 31 rfl)).trans e_ec
          have bfk2_89 : (0 : Int) ≤ fk2_89 ∧ fk2_89 ≤ 6 := e92 ▸ hW90.1 16
          refine .inl ⟨rfl, ?_⟩
          refine jx_ar (pc' := 28) (st' := [.int (i32 (0))]) rfl rfl rfl rfl ?_
          refine jx_rt (v := some (.int (i32 (0)))) rfl rfl rfl rfl rfl rfl ?_
          have z98 := tz_f (tk0)
          exact ⟨_, _, _, at0, fk2_89, op0, nd, tk0, ec, rfl, rfl, hW90, hF95, hP96, by omega, ((hF91.1 10 rfl).trans (e_at0)), (e92), ((hF91.1 15 rfl).trans (e_op0)), ((hF91.1 31 rfl).trans (e_nd)), ((hF91.1 11 rfl).trans (e_tk0)), ec97, by omega, by omega, by omega, by omega, by omega, by omega, by first | exact Or.inl (⟨by omega, by omega, by omega⟩)⟩
  · have _q : True := trivial
    refine jx_if_eq (pc' := 9) (tg := 44) rfl rfl rfl (by decide) (by decide) (fun h99 => ?_) (fun h99 => ?_)
    · have _q := h99
      refine jx_ld (pc' := 45) (l' := [(0, .ref 66), (1, .int (i32 (s))), (2, .int (i32 (place)))]) (st' := [.ref 66]) rfl (jl_aloadn rfl) ?_
      refine jr_get (pc' := 48) (i := 21) (v := .ref 74) rfl rfl (by decide) rfl rfl ?_
      refine jx_ld (pc' := 49) (l' := [(0, .ref 66), (1, .int (i32 (s))), (2, .int (i32 (place)))]) (st' := [.int (i32 (s)), .ref 74]) rfl (jl_iloadn rfl) ?_
      have b100 : (0 : Int) ≤ A 7 (s).toNat ∧ A 7 (s).toNat ≤ 14 := hW.2 7 _
      refine jr_ldv (pc' := 50) (i := 7) (m := 260) (z := s) (y := A 7 (s).toNat) rfl (by decide) rfl (by decide) (by omega) (by omega) rfl (show A 7 (s).toNat = A 7 (s).toNat from rfl) ?_
      refine jx_st (pc' := 53) (as := [.int (i32 (A 7 (s).toNat))]) (st := []) rfl rfl ⟨rfl, Nat.le_of_ble_eq_true rfl⟩ rfl rfl rfl (c_isValue (dd := d) (hd := by omega) (k := A 7 (s).toNat)   (h_k := ⟨(Int.le_trans (by decide : (-2147483648 : Int) ≤ 0) b100.1), (Int.le_trans b100.2 (by decide : (14 : Int) ≤ 2147483647))⟩)  ) (fun o V' hq => ?_)
      obtain ⟨r101, rfl, rfl, b102, q103⟩ := hq
      refine .inr ⟨_, rfl, ?_⟩
      rcases q103 with ⟨rfl, a104⟩ | rfl
      · have _q : True := trivial
        refine jx_if_ne (pc' := 56) (tg := 64) rfl rfl rfl (by decide) (by decide) (fun h105 => ?_) (fun h105 => ?_)
        · have _q := h105
          refine jx_ld (pc' := 65) (l' := [(0, .ref 66), (1, .int (i32 (s))), (2, .int (i32 (place)))]) (st' := [.ref 66]) rfl (jl_aloadn rfl) ?_
          refine jx_ar (pc' := 66) (st' := [.int (i32 (2)), .ref 66]) rfl rfl rfl rfl ?_
          refine jx_ld (pc' := 67) (l' := [(0, .ref 66), (1, .int (i32 (s))), (2, .int (i32 (place)))]) (st' := [.int (i32 (s)), .int (i32 (2)), .ref 66]) rfl (jl_iloadn rfl) ?_
          refine jx_ar (pc' := 68) (st' := [.int (i32 (0)), .int (i32 (s)), .int (i32 (2)), .ref 66]) rfl rfl rfl rfl ?_
          refine jx_ar (pc' := 69) (st' := [.int (i32 (0)), .int (i32 (0)), .int (i32 (s)), .int (i32 (2)), .ref 66]) rfl rfl rfl rfl ?_
          refine jx_ar (pc' := 70) (st' := [.int (i32 (0)), .int (i32 (0)), .int (i32 (0)), .int (i32 (s)), .int (i32 (2)), .ref 66]) rfl rfl rfl rfl ?_
          refine jx_vr (pc' := 73) (as := [.int (i32 (2)), .int (i32 (s)), .int (i32 (0)), .int (i32 (0)), .int (i32 (0))]) (st := []) rfl rfl rfl rfl ⟨rfl, rfl, Nat.le_of_ble_eq_true rfl⟩ rfl rfl (c_node_o (dd := d) (hd := by omega) (hW := hW) (kind := 2) (a := s) (b := 0) (c := 0) (e := 0) (nd := nd) (e_nd := show G 31 = nd from (e_nd)) (ec := ec) (e_ec := show ecn A (G 31) = ec from e_ec)  (h_kind := ⟨(by decide), (by decide)⟩) (h_a := ⟨(Int.le_trans (by decide : (-2147483648 : Int) ≤ -2147483648) h_s.1), (Int.le_trans h_s.2 (by decide : (2147483647 : Int) ≤ 2147483647))⟩) (h_b := ⟨(by decide), (by decide)⟩) (h_c := ⟨(by decide), (by decide)⟩) (h_e := ⟨(by decide), (by decide)⟩)  (p_0 := by omega) (p_1 := by omega) (p_2 := by omega)) (fun o V' hq => ?_)
          obtain ⟨G106, A107, nd2_108, ec2_109, rfl, rfl, hW110, hF111, hQ112, e113, e114, p115, p116, p117, -⟩ := hq
          have hF119 := Fr_tr hF0 hF111 (Fr_sub (by decide)) (Fr_sub (by decide))
          have hP120 := Pf_tr hP0 hQ112 (by omega)
          have bnd2_108 : (0 : Int) ≤ nd2_108 ∧ nd2_108 ≤ 6999 := e113 ▸ hW110.1 31
          refine .inr ⟨_, rfl, ?_⟩
          refine jx_rt (v := some (.int (i32 (nd)))) rfl rfl rfl rfl rfl rfl ?_
          have z121 := tz_f (tk0)
          exact ⟨_, _, _, at0, fk, op0, nd2_108, tk0, ec2_109, rfl, rfl, hW110, hF119, hP120, by omega, ((hF111.1 10 rfl).trans (e_at0)), ((hF111.1 16 rfl).trans (e_fk)), ((hF111.1 15 rfl).trans (e_op0)), (e113), ((hF111.1 11 rfl).trans (e_tk0)), e114, by omega, by omega, by omega, by omega, by omega, by omega, by first | exact Or.inr ((⟨by omega, by omega, by omega, (wE_var p117 (by omega) (by omega) p_10 (kq (P := kVal) (show A107 7 (s).toNat = A 7 (s).toNat from (congrFun (hF111.2 7 rfl) _)) a104)), by omega⟩))⟩
        · have _q := h105
          exact absurd h105 (by omega)
      · have _q : True := trivial
        refine jx_if_ne (pc' := 56) (tg := 64) rfl rfl rfl (by decide) (by decide) (fun h122 => ?_) (fun h122 => ?_)
        · have _q := h122
          exact absurd h122 (by omega)
        · have _q := h122
          refine jx_ld (pc' := 57) (l' := [(0, .ref 66), (1, .int (i32 (s))), (2, .int (i32 (place)))]) (st' := [.ref 66]) rfl (jl_aloadn rfl) ?_
          refine jx_ar (pc' := 58) (st' := [.int (i32 (4)), .ref 66]) rfl rfl rfl rfl ?_
          refine jx_ld (pc' := 59) (l' := [(0, .ref 66), (1, .int (i32 (s))), (2, .int (i32 (place)))]) (st' := [.int (i32 (place)), .int (i32 (4)), .ref 66]) rfl (jl_iloadn rfl) ?_
          refine jx_vr (pc' := 62) (as := [.int (i32 (4)), .int (i32 (place))]) (st := []) rfl rfl rfl rfl ⟨rfl, rfl, Nat.le_of_ble_eq_true rfl⟩ rfl rfl (c_fail (dd := d) (hd := by omega) (hW := hW) (kind := 4) (place := place) (fk := fk) (e_fk := show G 16 = fk from (e_fk))  (h_kind := ⟨(by decide), (by decide)⟩) (h_place := ⟨(Int.le_trans (by decide : (-2147483648 : Int) ≤ -2147483648) h_place.1), (Int.le_trans h_place.2 (by decide : (2147483647 : Int) ≤ 2147483647))⟩)  (p_0 := by omega) (p_1 := by omega)) (fun o V' hq => ?_)
          obtain ⟨G123, A124, fk2_125, rfl, rfl, hW126, hF127, e128, p129, -⟩ := hq
          have hF131 := Fr_tr hF0 hF127 (Fr_sub (by decide)) (Fr_sub (by decide))
          have hP132 := Pf_f hP0 hF127 (by decide)
          have ec133 : ecn A124 (G123 31) = ec := (ecn_f (hF127.2 15 rfl) (hF127.1 31 rfl)).trans e_ec
          have bfk2_125 : (0 : Int) ≤ fk2_125 ∧ fk2_125 ≤ 6 := e128 ▸ hW126.1 16
          refine .inl ⟨rfl, ?_⟩
          refine jx_ar (pc' := 63) (st' := [.int (i32 (0))]) rfl rfl rfl rfl ?_
          refine jx_rt (v := some (.int (i32 (0)))) rfl rfl rfl rfl rfl rfl ?_
          have z134 := tz_f (tk0)
          exact ⟨_, _, _, at0, fk2_125, op0, nd, tk0, ec, rfl, rfl, hW126, hF131, hP132, by omega, ((hF127.1 10 rfl).trans (e_at0)), (e128), ((hF127.1 15 rfl).trans (e_op0)), ((hF127.1 31 rfl).trans (e_nd)), ((hF127.1 11 rfl).trans (e_tk0)), ec133, by omega, by omega, by omega, by omega, by omega, by omega, by first | exact Or.inl (⟨by omega, by omega, by omega⟩)⟩
    · have _q := h99
      exact absurd h99 (by omega)
set_option maxRecDepth 20000 in
set_option maxHeartbeats 4000000 in
theorem c_readOperand_w {X : jX} {k : Nat} (hE : REw X k) {dd : Nat} {Vs : Nat → Prop} {sb : Int} {c0 c1 : jC} {G : Nat → Int} {A : Nat → Nat → Int} {T : jH} {ln le at0 fk op0 nd tk0 ec : Int} (hd : 6 * k + 14 ≤ dd) (hW : Wk G A) (e_ln : G 9 = ln) (e_le : A 4 (ln).toNat = le) (e_at0 : G 10 = at0) (e_fk : G 16 = fk) (e_op0 : G 15 = op0) (e_nd : G 31 = nd) (e_tk0 : G 11 = tk0) (e_ec : ecn A (G 31) = ec) (i_SV : SV Vs sb G A) (p_0 : 0 ≤ op0) (p_1 : op0 ≤ 9) (p_2 : op0 ≤ 8 ∨ 1 ≤ fk) (p_3 : 9 - op0 ≤ ((k + 1 : Nat) : Int) ∨ 1 ≤ fk) (p_4 : nd ≤ 2 * at0 - tz tk0 + 50) (p_5 : at0 ≤ le) : wk X dd 288 [.ref 66] (rV c0 c1 G A T) (fun o V' => ∃ (G' : Nat → Int) (A' : Nat → Nat → Int) (r : Int) (at2 : Int) (fk2 : Int) (op2 : Int) (nd2 : Int) (tk2 : Int) (ec2 : Int), V' = rV c0 c1 G' A' T ∧ o = .inl (some (.int (i32 r))) ∧ Wk G' A' ∧ Fr [10, 11, 12, 13, 14, 15, 16, 17, 18, 31] [15, 16, 17, 18, 19, 20, 21, 22, 24, 28] G A G' A' ∧ Pf nd A A' ∧ ((-2147483648 : Int) ≤ r ∧ r ≤ 2147483647) ∧ G' 10 = at2 ∧ G' 16 = fk2 ∧ G' 15 = op2 ∧ G' 31 = nd2 ∧ G' 11 = tk2 ∧ ecn A' (G' 31) = ec2 ∧ (at0 ≤ at2) ∧ (at2 ≤ le) ∧ (nd ≤ nd2) ∧ (op2 = op0) ∧ (0 ≤ r) ∧ (r ≤ nd2) ∧ (((1 ≤ fk) ∧ (1 ≤ fk2) ∧ (nd2 = nd) ∧ (at2 = at0) ∧ (tk2 = tk0) ∧ (tz tk2 = tz tk0)) ∨ ((fk = 0) ∧ (1 ≤ fk2) ∧ (nd2 - nd ≤ (2 * at2 - tz tk2) - (2 * at0 - tz tk0) + 1)) ∨ ((fk = 0) ∧ (fk2 = 0) ∧ (nd2 - nd ≤ (2 * at2 - tz tk2) - (2 * at0 - tz tk0)) ∧ (wE A' Vs sb (2 * k + 3) (r) (nd) (nd2)) ∧ (nd2 - nd + 5 * (ec2 - ec) ≤ (2 * at2 - tz tk2) - (2 * at0 - tz tk0) - tz tk2) ∧ (tz tk0 = 1)))) := by
  obtain ⟨d, rfl⟩ : ∃ d, dd = d + 1 := ⟨dd - 1, by omega⟩
  refine wk_of (e := jm288) rfl (Nat.le_of_ble_eq_true rfl) ?_
  show wj X d jm288 (0, [(0, .ref 66)], [], rV c0 c1 G A T) _
  have hF0 : Fr [10, 11, 12, 13, 14, 15, 16, 17, 18, 31] [15, 16, 17, 18, 19, 20, 21, 22, 24, 28] G A G A := Fr_rf
  have hP0 : Pf nd A A := Pf_rf
  have b_ln : (0 : Int) ≤ ln ∧ ln ≤ 3000 := e_ln ▸ hW.1 9
  have b_le : (0 : Int) ≤ le ∧ le ≤ 3000 := e_le ▸ hW.2 4 _
  have b_at0 : (0 : Int) ≤ at0 ∧ at0 ≤ 3002 := e_at0 ▸ hW.1 10
  have b_fk : (0 : Int) ≤ fk ∧ fk ≤ 6 := e_fk ▸ hW.1 16
  have b_op0 : (-2147483648 : Int) ≤ op0 ∧ op0 ≤ 2147483647 := e_op0 ▸ hW.1 15
  have b_nd : (0 : Int) ≤ nd ∧ nd ≤ 6999 := e_nd ▸ hW.1 31
  have z_tk0 := tz_f tk0
  have b_tk0 : (0 : Int) ≤ tk0 ∧ tk0 ≤ 5 := e_tk0 ▸ hW.1 11
  refine jx_ld (pc' := 1) (l' := [(0, .ref 66)]) (st' := [.ref 66]) rfl (jl_aloadn rfl) ?_
  refine jx_vr (pc' := 4) (as := []) (st := []) rfl rfl rfl rfl ⟨rfl, rfl, Nat.le_of_ble_eq_true rfl⟩ rfl rfl (c_bad (dd := d) (hd := by omega) (hW := hW)  (fk := fk) (e_fk := show G 16 = fk from (e_fk))    ) (fun o V' hq => ?_)
  obtain ⟨r1, rfl, rfl, b2, q3⟩ := hq
  refine .inr ⟨_, rfl, ?_⟩
  rcases q3 with ⟨rfl, a4⟩ | ⟨rfl, a5⟩
  · have _q : True := trivial
    refine jx_if_eq (pc' := 7) (tg := 9) rfl rfl rfl (by decide) (by decide) (fun h6 => ?_) (fun h6 => ?_)
    · have _q := h6
      exact absurd h6 (by omega)
    · have _q := h6
      refine jx_ar (pc' := 8) (st' := [.int (i32 (0))]) rfl rfl rfl rfl ?_
      refine jx_rt (v := some (.int (i32 (0)))) rfl rfl rfl rfl rfl rfl ?_
      have z7 := tz_f (tk0)
      exact ⟨_, _, _, at0, fk, op0, nd, tk0, ec, rfl, rfl, hW, hF0, hP0, by omega, (e_at0), (e_fk), (e_op0), (e_nd), (e_tk0), e_ec, by omega, by omega, by omega, by omega, by omega, by omega, by first | exact Or.inl (⟨by omega, by omega, by omega, by omega, by omega, by omega⟩)⟩
  · have _q : True := trivial
    refine jx_if_eq (pc' := 7) (tg := 9) rfl rfl rfl (by decide) (by decide) (fun h8 => ?_) (fun h8 => ?_)
    · have _q := h8
      refine jx_ld (pc' := 10) (l' := [(0, .ref 66)]) (st' := [.ref 66]) rfl (jl_aloadn rfl) ?_
      have z9 := tz_f (tk0)
      refine jr_get (pc' := 13) (i := 11) (v := .int (i32 (tk0))) rfl rfl (by decide) (rFv_eq (by decide) (show G 11 = tk0 from (e_tk0))) rfl ?_
      refine jx_ar (pc' := 14) (st' := [.int (i32 (3)), .int (i32 (tk0))]) rfl rfl rfl rfl ?_
      refine jx_icmp_eq (pc' := 17) (tg := 35) rfl rfl rfl (Int.le_trans (by decide : (-2147483648 : Int) ≤ 0) b_tk0.1) (Int.le_trans b_tk0.2 (by decide : (5 : Int) ≤ 2147483647)) (by decide) (by decide) (fun h10 => ?_) (fun h10 => ?_)
      · have _q := h10
        refine jx_ld (pc' := 36) (l' := [(0, .ref 66)]) (st' := [.ref 66]) rfl (jl_aloadn rfl) ?_
        have z11 := tz_f (tk0)
        refine jr_get (pc' := 39) (i := 11) (v := .int (i32 (tk0))) rfl rfl (by decide) (rFv_eq (by decide) (show G 11 = tk0 from (e_tk0))) rfl ?_
        refine jx_ar (pc' := 40) (st' := [.int (i32 (3)), .int (i32 (tk0))]) rfl rfl rfl rfl ?_
        refine jx_icmp_ne (pc' := 43) (tg := 50) rfl rfl rfl (Int.le_trans (by decide : (-2147483648 : Int) ≤ 0) b_tk0.1) (Int.le_trans b_tk0.2 (by decide : (5 : Int) ≤ 2147483647)) (by decide) (by decide) (fun h12 => ?_) (fun h12 => ?_)
        · have _q := h12
          refine jx_ld (pc' := 51) (l' := [(0, .ref 66)]) (st' := [.ref 66]) rfl (jl_aloadn rfl) ?_
          refine jx_ar (pc' := 53) (st' := [.int (i32 (14)), .ref 66]) rfl rfl rfl rfl ?_
          have b13 : (-2147483648 : Int) ≤ G 13 ∧ G 13 ≤ 2147483647 := hW.1 13
          refine jx_vr (pc' := 56) (as := [.int (i32 (14))]) (st := []) rfl rfl rfl rfl ⟨rfl, rfl, Nat.le_of_ble_eq_true rfl⟩ rfl rfl (c_isKey (dd := d) (hd := by omega) (hW := hW) (k := 14) (tk := tk0) (e_tk := show G 11 = tk0 from (e_tk0)) (tn := G 13) (e_tn := show G 13 = G 13 from rfl)  (h_k := ⟨(by decide), (by decide)⟩)  ) (fun o V' hq => ?_)
          obtain ⟨r14, rfl, rfl, b15, q16⟩ := hq
          refine .inr ⟨_, rfl, ?_⟩
          rcases q16 with ⟨rfl, a17, a18, a19⟩ | rfl
          · have _q : True := trivial
            refine jx_if_eq (pc' := 59) (tg := 63) rfl rfl rfl (by decide) (by decide) (fun h20 => ?_) (fun h20 => ?_)
            · have _q := h20
              exact absurd h20 (by omega)
            · have _q := h20
              refine jx_ar (pc' := 60) (st' := [.int (i32 (1))]) rfl rfl rfl rfl ?_
              refine jx_go (tg := 64) rfl rfl ?_
              refine jx_ld (pc' := 65) (l' := jSto1 [(0, .ref 66)] 1 (.int (i32 (1)))) (st' := []) rfl rfl ?_
              obtain ⟨L21, eL21⟩ : ∃ q, q = jSto1 [(0, .ref 66)] 1 (.int (i32 (1))) := ⟨_, rfl⟩
              rw [← eL21]
              have gL21_0 : jGet L21 0 = some (.ref 66) := eL21 ▸ jg_ne (by decide) (rfl : jGet [(0, .ref 66)] 0 = some (.ref 66)) rfl
              have gL21_1 : jGet L21 1 = some (.int (i32 (1))) := eL21 ▸ jg_eq
              refine jx_ld (pc' := 66) (l' := L21) (st' := [.ref 66]) rfl (jl_aloadn gL21_0) ?_
              refine jx_vr (pc' := 69) (as := []) (st := []) rfl rfl rfl rfl ⟨rfl, rfl, Nat.le_of_ble_eq_true rfl⟩ rfl rfl (c_next (dd := d) (hd := by omega) (hW := hW)  (ln := ln) (e_ln := show G 9 = ln from (e_ln)) (le := le) (e_le := show A 4 (ln).toNat = le from (e_le)) (at0 := at0) (e_at0 := show G 10 = at0 from (e_at0))    (p_0 := by omega)) (fun o V' hq => ?_)
              obtain ⟨G22, A23, at2_24, tk2_25, rfl, rfl, hW26, hF27, e28, e29, p30, p31, p32, -⟩ := hq
              have hF34 := Fr_tr hF0 hF27 (Fr_sub (by decide)) (Fr_sub (by decide))
              have hP35 := Pf_f hP0 hF27 (by decide)
              have ec36 : ecn A23 (G22 31) = ec := (ecn_f (hF27.2 15 rfl) (hF27.1 31 rfl)).trans e_ec
              have bat2_24 : (0 : Int) ≤ at2_24 ∧ at2_24 ≤ 3002 := e28 ▸ hW26.1 10
              have ztk2_25 := tz_b tk2_25
              have btk2_25 : (0 : Int) ≤ tk2_25 ∧ tk2_25 ≤ 5 := e29 ▸ hW26.1 11
              refine .inl ⟨rfl, ?_⟩
              have pz37 : at0 + tz tk2_25 ≤ at2_24 := by omega
              refine jx_ld (pc' := 70) (l' := L21) (st' := [.ref 66]) rfl (jl_aloadn gL21_0) ?_
              refine jx_ar (pc' := 71) (st' := [.int (i32 (1)), .ref 66]) rfl rfl rfl rfl ?_
              refine jx_ld (pc' := 72) (l' := L21) (st' := [.int (i32 (1)), .int (i32 (1)), .ref 66]) rfl (jl_iloadn gL21_1) ?_
              refine jx_ar (pc' := 73) (st' := [.int (i32 (0)), .int (i32 (1)), .int (i32 (1)), .ref 66]) rfl rfl rfl rfl ?_
              refine jx_ar (pc' := 74) (st' := [.int (i32 (0)), .int (i32 (0)), .int (i32 (1)), .int (i32 (1)), .ref 66]) rfl rfl rfl rfl ?_
              refine jx_ar (pc' := 75) (st' := [.int (i32 (0)), .int (i32 (0)), .int (i32 (0)), .int (i32 (1)), .int (i32 (1)), .ref 66]) rfl rfl rfl rfl ?_
              refine jx_vr (pc' := 78) (as := [.int (i32 (1)), .int (i32 (1)), .int (i32 (0)), .int (i32 (0)), .int (i32 (0))]) (st := []) rfl rfl rfl rfl ⟨rfl, rfl, Nat.le_of_ble_eq_true rfl⟩ rfl rfl (c_node_o (dd := d) (hd := by omega) (hW := hW26) (kind := 1) (a := 1) (b := 0) (c := 0) (e := 0) (nd := nd) (e_nd := show G22 31 = nd from ((hF27.1 31 rfl).trans (e_nd))) (ec := ec) (e_ec := show ecn A23 (G22 31) = ec from ec36)  (h_kind := ⟨(by decide), (by decide)⟩) (h_a := ⟨(by decide), (by decide)⟩) (h_b := ⟨(by decide), (by decide)⟩) (h_c := ⟨(by decide), (by decide)⟩) (h_e := ⟨(by decide), (by decide)⟩)  (p_0 := by omega) (p_1 := by omega) (p_2 := by omega)) (fun o V' hq => ?_)
              obtain ⟨G38, A39, nd2_40, ec2_41, rfl, rfl, hW42, hF43, hQ44, e45, e46, p47, p48, p49, -⟩ := hq
              have hF51 := Fr_tr hF34 hF43 (Fr_sub (by decide)) (Fr_sub (by decide))
              have hP52 := Pf_tr hP35 hQ44 (by omega)
              have bnd2_40 : (0 : Int) ≤ nd2_40 ∧ nd2_40 ≤ 6999 := e45 ▸ hW42.1 31
              refine .inr ⟨_, rfl, ?_⟩
              refine jx_rt (v := some (.int (i32 (nd)))) rfl rfl rfl rfl rfl rfl ?_
              have z53 := tz_f (tk2_25)
              exact ⟨_, _, _, at2_24, fk, op0, nd2_40, tk2_25, ec2_41, rfl, rfl, hW42, hF51, hP52, by omega, ((hF43.1 10 rfl).trans (e28)), ((hF43.1 16 rfl).trans ((hF27.1 16 rfl).trans (e_fk))), ((hF43.1 15 rfl).trans ((hF27.1 15 rfl).trans (e_op0))), (e45), ((hF43.1 11 rfl).trans (e29)), e46, by omega, by omega, by omega, by omega, by omega, by omega, by first | exact Or.inr (Or.inr ((⟨by omega, by omega, by omega, (wE_num p49 (by omega) (by omega)), by omega, by omega⟩)))⟩
          · have _q : True := trivial
            refine jx_if_eq (pc' := 59) (tg := 63) rfl rfl rfl (by decide) (by decide) (fun h54 => ?_) (fun h54 => ?_)
            · have _q := h54
              refine jx_ar (pc' := 64) (st' := [.int (i32 (0))]) rfl rfl rfl rfl ?_
              refine jx_ld (pc' := 65) (l' := jSto1 [(0, .ref 66)] 1 (.int (i32 (0)))) (st' := []) rfl rfl ?_
              obtain ⟨L55, eL55⟩ : ∃ q, q = jSto1 [(0, .ref 66)] 1 (.int (i32 (0))) := ⟨_, rfl⟩
              rw [← eL55]
              have gL55_0 : jGet L55 0 = some (.ref 66) := eL55 ▸ jg_ne (by decide) (rfl : jGet [(0, .ref 66)] 0 = some (.ref 66)) rfl
              have gL55_1 : jGet L55 1 = some (.int (i32 (0))) := eL55 ▸ jg_eq
              refine jx_ld (pc' := 66) (l' := L55) (st' := [.ref 66]) rfl (jl_aloadn gL55_0) ?_
              refine jx_vr (pc' := 69) (as := []) (st := []) rfl rfl rfl rfl ⟨rfl, rfl, Nat.le_of_ble_eq_true rfl⟩ rfl rfl (c_next (dd := d) (hd := by omega) (hW := hW)  (ln := ln) (e_ln := show G 9 = ln from (e_ln)) (le := le) (e_le := show A 4 (ln).toNat = le from (e_le)) (at0 := at0) (e_at0 := show G 10 = at0 from (e_at0))    (p_0 := by omega)) (fun o V' hq => ?_)
              obtain ⟨G56, A57, at2_58, tk2_59, rfl, rfl, hW60, hF61, e62, e63, p64, p65, p66, -⟩ := hq
              have hF68 := Fr_tr hF0 hF61 (Fr_sub (by decide)) (Fr_sub (by decide))
              have hP69 := Pf_f hP0 hF61 (by decide)
              have ec70 : ecn A57 (G56 31) = ec := (ecn_f (hF61.2 15 rfl) (hF61.1 31 rfl)).trans e_ec
              have bat2_58 : (0 : Int) ≤ at2_58 ∧ at2_58 ≤ 3002 := e62 ▸ hW60.1 10
              have ztk2_59 := tz_b tk2_59
              have btk2_59 : (0 : Int) ≤ tk2_59 ∧ tk2_59 ≤ 5 := e63 ▸ hW60.1 11
              refine .inl ⟨rfl, ?_⟩
              have pz71 : at0 + tz tk2_59 ≤ at2_58 := by omega
              refine jx_ld (pc' := 70) (l' := L55) (st' := [.ref 66]) rfl (jl_aloadn gL55_0) ?_
              refine jx_ar (pc' := 71) (st' := [.int (i32 (1)), .ref 66]) rfl rfl rfl rfl ?_
              refine jx_ld (pc' := 72) (l' := L55) (st' := [.int (i32 (0)), .int (i32 (1)), .ref 66]) rfl (jl_iloadn gL55_1) ?_
              refine jx_ar (pc' := 73) (st' := [.int (i32 (0)), .int (i32 (0)), .int (i32 (1)), .ref 66]) rfl rfl rfl rfl ?_
              refine jx_ar (pc' := 74) (st' := [.int (i32 (0)), .int (i32 (0)), .int (i32 (0)), .int (i32 (1)), .ref 66]) rfl rfl rfl rfl ?_
              refine jx_ar (pc' := 75) (st' := [.int (i32 (0)), .int (i32 (0)), .int (i32 (0)), .int (i32 (0)), .int (i32 (1)), .ref 66]) rfl rfl rfl rfl ?_
              refine jx_vr (pc' := 78) (as := [.int (i32 (1)), .int (i32 (0)), .int (i32 (0)), .int (i32 (0)), .int (i32 (0))]) (st := []) rfl rfl rfl rfl ⟨rfl, rfl, Nat.le_of_ble_eq_true rfl⟩ rfl rfl (c_node_o (dd := d) (hd := by omega) (hW := hW60) (kind := 1) (a := 0) (b := 0) (c := 0) (e := 0) (nd := nd) (e_nd := show G56 31 = nd from ((hF61.1 31 rfl).trans (e_nd))) (ec := ec) (e_ec := show ecn A57 (G56 31) = ec from ec70)  (h_kind := ⟨(by decide), (by decide)⟩) (h_a := ⟨(by decide), (by decide)⟩) (h_b := ⟨(by decide), (by decide)⟩) (h_c := ⟨(by decide), (by decide)⟩) (h_e := ⟨(by decide), (by decide)⟩)  (p_0 := by omega) (p_1 := by omega) (p_2 := by omega)) (fun o V' hq => ?_)
              obtain ⟨G72, A73, nd2_74, ec2_75, rfl, rfl, hW76, hF77, hQ78, e79, e80, p81, p82, p83, -⟩ := hq
              have hF85 := Fr_tr hF68 hF77 (Fr_sub (by decide)) (Fr_sub (by decide))
              have hP86 := Pf_tr hP69 hQ78 (by omega)
              have bnd2_74 : (0 : Int) ≤ nd2_74 ∧ nd2_74 ≤ 6999 := e79 ▸ hW76.1 31
              refine .inr ⟨_, rfl, ?_⟩
              refine jx_rt (v := some (.int (i32 (nd)))) rfl rfl rfl rfl rfl rfl ?_
              have z87 := tz_f (tk2_59)
              exact ⟨_, _, _, at2_58, fk, op0, nd2_74, tk2_59, ec2_75, rfl, rfl, hW76, hF85, hP86, by omega, ((hF77.1 10 rfl).trans (e62)), ((hF77.1 16 rfl).trans ((hF61.1 16 rfl).trans (e_fk))), ((hF77.1 15 rfl).trans ((hF61.1 15 rfl).trans (e_op0))), (e79), ((hF77.1 11 rfl).trans (e63)), e80, by omega, by omega, by omega, by omega, by omega, by omega, by first | exact Or.inr (Or.inr ((⟨by omega, by omega, by omega, (wE_num p83 (by omega) (by omega)), by omega, by omega⟩)))⟩
            · have _q := h54
              exact absurd h54 (by omega)
        · have _q := h12
          refine jx_ld (pc' := 44) (l' := [(0, .ref 66)]) (st' := [.ref 66]) rfl (jl_aloadn rfl) ?_
          have b88 : (-2147483648 : Int) ≤ G 13 ∧ G 13 ≤ 2147483647 := hW.1 13
          refine jr_get (pc' := 47) (i := 13) (v := .int (i32 (G 13))) rfl rfl (by decide) rfl rfl ?_
          refine jx_go (tg := 64) rfl rfl ?_
          refine jx_ld (pc' := 65) (l' := jSto1 [(0, .ref 66)] 1 (.int (i32 (G 13)))) (st' := []) rfl rfl ?_
          obtain ⟨L89, eL89⟩ : ∃ q, q = jSto1 [(0, .ref 66)] 1 (.int (i32 (G 13))) := ⟨_, rfl⟩
          rw [← eL89]
          have gL89_0 : jGet L89 0 = some (.ref 66) := eL89 ▸ jg_ne (by decide) (rfl : jGet [(0, .ref 66)] 0 = some (.ref 66)) rfl
          have gL89_1 : jGet L89 1 = some (.int (i32 (G 13))) := eL89 ▸ jg_eq
          refine jx_ld (pc' := 66) (l' := L89) (st' := [.ref 66]) rfl (jl_aloadn gL89_0) ?_
          refine jx_vr (pc' := 69) (as := []) (st := []) rfl rfl rfl rfl ⟨rfl, rfl, Nat.le_of_ble_eq_true rfl⟩ rfl rfl (c_next (dd := d) (hd := by omega) (hW := hW)  (ln := ln) (e_ln := show G 9 = ln from (e_ln)) (le := le) (e_le := show A 4 (ln).toNat = le from (e_le)) (at0 := at0) (e_at0 := show G 10 = at0 from (e_at0))    (p_0 := by omega)) (fun o V' hq => ?_)
          obtain ⟨G90, A91, at2_92, tk2_93, rfl, rfl, hW94, hF95, e96, e97, p98, p99, p100, -⟩ := hq
          have hF102 := Fr_tr hF0 hF95 (Fr_sub (by decide)) (Fr_sub (by decide))
          have hP103 := Pf_f hP0 hF95 (by decide)
          have ec104 : ecn A91 (G90 31) = ec := (ecn_f (hF95.2 15 rfl) (hF95.1 31 rfl)).trans e_ec
          have bat2_92 : (0 : Int) ≤ at2_92 ∧ at2_92 ≤ 3002 := e96 ▸ hW94.1 10
          have ztk2_93 := tz_b tk2_93
          have btk2_93 : (0 : Int) ≤ tk2_93 ∧ tk2_93 ≤ 5 := e97 ▸ hW94.1 11
          refine .inl ⟨rfl, ?_⟩
          have pz105 : at0 + tz tk2_93 ≤ at2_92 := by omega
          refine jx_ld (pc' := 70) (l' := L89) (st' := [.ref 66]) rfl (jl_aloadn gL89_0) ?_
          refine jx_ar (pc' := 71) (st' := [.int (i32 (1)), .ref 66]) rfl rfl rfl rfl ?_
          refine jx_ld (pc' := 72) (l' := L89) (st' := [.int (i32 (G 13)), .int (i32 (1)), .ref 66]) rfl (jl_iloadn gL89_1) ?_
          refine jx_ar (pc' := 73) (st' := [.int (i32 (0)), .int (i32 (G 13)), .int (i32 (1)), .ref 66]) rfl rfl rfl rfl ?_
          refine jx_ar (pc' := 74) (st' := [.int (i32 (0)), .int (i32 (0)), .int (i32 (G 13)), .int (i32 (1)), .ref 66]) rfl rfl rfl rfl ?_
          refine jx_ar (pc' := 75) (st' := [.int (i32 (0)), .int (i32 (0)), .int (i32 (0)), .int (i32 (G 13)), .int (i32 (1)), .ref 66]) rfl rfl rfl rfl ?_
          refine jx_vr (pc' := 78) (as := [.int (i32 (1)), .int (i32 (G 13)), .int (i32 (0)), .int (i32 (0)), .int (i32 (0))]) (st := []) rfl rfl rfl rfl ⟨rfl, rfl, Nat.le_of_ble_eq_true rfl⟩ rfl rfl (c_node_o (dd := d) (hd := by omega) (hW := hW94) (kind := 1) (a := G 13) (b := 0) (c := 0) (e := 0) (nd := nd) (e_nd := show G90 31 = nd from ((hF95.1 31 rfl).trans (e_nd))) (ec := ec) (e_ec := show ecn A91 (G90 31) = ec from ec104)  (h_kind := ⟨(by decide), (by decide)⟩) (h_a := ⟨(Int.le_trans (by decide : (-2147483648 : Int) ≤ -2147483648) b88.1), (Int.le_trans b88.2 (by decide : (2147483647 : Int) ≤ 2147483647))⟩) (h_b := ⟨(by decide), (by decide)⟩) (h_c := ⟨(by decide), (by decide)⟩) (h_e := ⟨(by decide), (by decide)⟩)  (p_0 := by omega) (p_1 := by omega) (p_2 := by omega)) (fun o V' hq => ?_)
          obtain ⟨G106, A107, nd2_108, ec2_109, rfl, rfl, hW110, hF111, hQ112, e113, e114, p115, p116, p117, -⟩ := hq
          have hF119 := Fr_tr hF102 hF111 (Fr_sub (by decide)) (Fr_sub (by decide))
          have hP120 := Pf_tr hP103 hQ112 (by omega)
          have bnd2_108 : (0 : Int) ≤ nd2_108 ∧ nd2_108 ≤ 6999 := e113 ▸ hW110.1 31
          refine .inr ⟨_, rfl, ?_⟩
          refine jx_rt (v := some (.int (i32 (nd)))) rfl rfl rfl rfl rfl rfl ?_
          have z121 := tz_f (tk2_93)
          exact ⟨_, _, _, at2_92, fk, op0, nd2_108, tk2_93, ec2_109, rfl, rfl, hW110, hF119, hP120, by omega, ((hF111.1 10 rfl).trans (e96)), ((hF111.1 16 rfl).trans ((hF95.1 16 rfl).trans (e_fk))), ((hF111.1 15 rfl).trans ((hF95.1 15 rfl).trans (e_op0))), (e113), ((hF111.1 11 rfl).trans (e97)), e114, by omega, by omega, by omega, by omega, by omega, by omega, by first | exact Or.inr (Or.inr ((⟨by omega, by omega, by omega, (wE_num p117 (by omega) (by omega)), by omega, by omega⟩)))⟩
      · have _q := h10
        refine jx_ld (pc' := 18) (l' := [(0, .ref 66)]) (st' := [.ref 66]) rfl (jl_aloadn rfl) ?_
        refine jx_ar (pc' := 20) (st' := [.int (i32 (14)), .ref 66]) rfl rfl rfl rfl ?_
        have b122 : (-2147483648 : Int) ≤ G 13 ∧ G 13 ≤ 2147483647 := hW.1 13
        refine jx_vr (pc' := 23) (as := [.int (i32 (14))]) (st := []) rfl rfl rfl rfl ⟨rfl, rfl, Nat.le_of_ble_eq_true rfl⟩ rfl rfl (c_isKey (dd := d) (hd := by omega) (hW := hW) (k := 14) (tk := tk0) (e_tk := show G 11 = tk0 from (e_tk0)) (tn := G 13) (e_tn := show G 13 = G 13 from rfl)  (h_k := ⟨(by decide), (by decide)⟩)  ) (fun o V' hq => ?_)
        obtain ⟨r123, rfl, rfl, b124, q125⟩ := hq
        refine .inr ⟨_, rfl, ?_⟩
        rcases q125 with ⟨rfl, a126, a127, a128⟩ | rfl
        · have _q : True := trivial
          refine jx_if_ne (pc' := 26) (tg := 35) rfl rfl rfl (by decide) (by decide) (fun h129 => ?_) (fun h129 => ?_)
          · have _q := h129
            refine jx_ld (pc' := 36) (l' := [(0, .ref 66)]) (st' := [.ref 66]) rfl (jl_aloadn rfl) ?_
            have z130 := tz_f (tk0)
            refine jr_get (pc' := 39) (i := 11) (v := .int (i32 (tk0))) rfl rfl (by decide) (rFv_eq (by decide) (show G 11 = tk0 from (e_tk0))) rfl ?_
            refine jx_ar (pc' := 40) (st' := [.int (i32 (3)), .int (i32 (tk0))]) rfl rfl rfl rfl ?_
            refine jx_icmp_ne (pc' := 43) (tg := 50) rfl rfl rfl (Int.le_trans (by decide : (-2147483648 : Int) ≤ 0) b_tk0.1) (Int.le_trans b_tk0.2 (by decide : (5 : Int) ≤ 2147483647)) (by decide) (by decide) (fun h131 => ?_) (fun h131 => ?_)
            · have _q := h131
              refine jx_ld (pc' := 51) (l' := [(0, .ref 66)]) (st' := [.ref 66]) rfl (jl_aloadn rfl) ?_
              refine jx_ar (pc' := 53) (st' := [.int (i32 (14)), .ref 66]) rfl rfl rfl rfl ?_
              refine jx_vr (pc' := 56) (as := [.int (i32 (14))]) (st := []) rfl rfl rfl rfl ⟨rfl, rfl, Nat.le_of_ble_eq_true rfl⟩ rfl rfl (c_isKey (dd := d) (hd := by omega) (hW := hW) (k := 14) (tk := tk0) (e_tk := show G 11 = tk0 from (e_tk0)) (tn := G 13) (e_tn := show G 13 = G 13 from rfl)  (h_k := ⟨(by decide), (by decide)⟩)  ) (fun o V' hq => ?_)
              obtain ⟨r132, rfl, rfl, b133, q134⟩ := hq
              refine .inr ⟨_, rfl, ?_⟩
              rcases q134 with ⟨rfl, a135, a136, a137⟩ | rfl
              · have _q : True := trivial
                refine jx_if_eq (pc' := 59) (tg := 63) rfl rfl rfl (by decide) (by decide) (fun h138 => ?_) (fun h138 => ?_)
                · have _q := h138
                  exact absurd h138 (by omega)
                · have _q := h138
                  refine jx_ar (pc' := 60) (st' := [.int (i32 (1))]) rfl rfl rfl rfl ?_
                  refine jx_go (tg := 64) rfl rfl ?_
                  refine jx_ld (pc' := 65) (l' := jSto1 [(0, .ref 66)] 1 (.int (i32 (1)))) (st' := []) rfl rfl ?_
                  obtain ⟨L139, eL139⟩ : ∃ q, q = jSto1 [(0, .ref 66)] 1 (.int (i32 (1))) := ⟨_, rfl⟩
                  rw [← eL139]
                  have gL139_0 : jGet L139 0 = some (.ref 66) := eL139 ▸ jg_ne (by decide) (rfl : jGet [(0, .ref 66)] 0 = some (.ref 66)) rfl
                  have gL139_1 : jGet L139 1 = some (.int (i32 (1))) := eL139 ▸ jg_eq
                  refine jx_ld (pc' := 66) (l' := L139) (st' := [.ref 66]) rfl (jl_aloadn gL139_0) ?_
                  refine jx_vr (pc' := 69) (as := []) (st := []) rfl rfl rfl rfl ⟨rfl, rfl, Nat.le_of_ble_eq_true rfl⟩ rfl rfl (c_next (dd := d) (hd := by omega) (hW := hW)  (ln := ln) (e_ln := show G 9 = ln from (e_ln)) (le := le) (e_le := show A 4 (ln).toNat = le from (e_le)) (at0 := at0) (e_at0 := show G 10 = at0 from (e_at0))    (p_0 := by omega)) (fun o V' hq => ?_)
                  obtain ⟨G140, A141, at2_142, tk2_143, rfl, rfl, hW144, hF145, e146, e147, p148, p149, p150, -⟩ := hq
                  have hF152 := Fr_tr hF0 hF145 (Fr_sub (by decide)) (Fr_sub (by decide))
                  have hP153 := Pf_f hP0 hF145 (by decide)
                  have ec154 : ecn A141 (G140 31) = ec := (ecn_f (hF145.2 15 rfl) (hF145.1 31 rfl)).trans e_ec
                  have bat2_142 : (0 : Int) ≤ at2_142 ∧ at2_142 ≤ 3002 := e146 ▸ hW144.1 10
                  have ztk2_143 := tz_b tk2_143
                  have btk2_143 : (0 : Int) ≤ tk2_143 ∧ tk2_143 ≤ 5 := e147 ▸ hW144.1 11
                  refine .inl ⟨rfl, ?_⟩
                  have pz155 : at0 + tz tk2_143 ≤ at2_142 := by omega
                  refine jx_ld (pc' := 70) (l' := L139) (st' := [.ref 66]) rfl (jl_aloadn gL139_0) ?_
                  refine jx_ar (pc' := 71) (st' := [.int (i32 (1)), .ref 66]) rfl rfl rfl rfl ?_
                  refine jx_ld (pc' := 72) (l' := L139) (st' := [.int (i32 (1)), .int (i32 (1)), .ref 66]) rfl (jl_iloadn gL139_1) ?_
                  refine jx_ar (pc' := 73) (st' := [.int (i32 (0)), .int (i32 (1)), .int (i32 (1)), .ref 66]) rfl rfl rfl rfl ?_
                  refine jx_ar (pc' := 74) (st' := [.int (i32 (0)), .int (i32 (0)), .int (i32 (1)), .int (i32 (1)), .ref 66]) rfl rfl rfl rfl ?_
                  refine jx_ar (pc' := 75) (st' := [.int (i32 (0)), .int (i32 (0)), .int (i32 (0)), .int (i32 (1)), .int (i32 (1)), .ref 66]) rfl rfl rfl rfl ?_
                  refine jx_vr (pc' := 78) (as := [.int (i32 (1)), .int (i32 (1)), .int (i32 (0)), .int (i32 (0)), .int (i32 (0))]) (st := []) rfl rfl rfl rfl ⟨rfl, rfl, Nat.le_of_ble_eq_true rfl⟩ rfl rfl (c_node_o (dd := d) (hd := by omega) (hW := hW144) (kind := 1) (a := 1) (b := 0) (c := 0) (e := 0) (nd := nd) (e_nd := show G140 31 = nd from ((hF145.1 31 rfl).trans (e_nd))) (ec := ec) (e_ec := show ecn A141 (G140 31) = ec from ec154)  (h_kind := ⟨(by decide), (by decide)⟩) (h_a := ⟨(by decide), (by decide)⟩) (h_b := ⟨(by decide), (by decide)⟩) (h_c := ⟨(by decide), (by decide)⟩) (h_e := ⟨(by decide), (by decide)⟩)  (p_0 := by omega) (p_1 := by omega) (p_2 := by omega)) (fun o V' hq => ?_)
                  obtain ⟨G156, A157, nd2_158, ec2_159, rfl, rfl, hW160, hF161, hQ162, e163, e164, p165, p166, p167, -⟩ := hq
                  have hF169 := Fr_tr hF152 hF161 (Fr_sub (by decide)) (Fr_sub (by decide))
                  have hP170 := Pf_tr hP153 hQ162 (by omega)
                  have bnd2_158 : (0 : Int) ≤ nd2_158 ∧ nd2_158 ≤ 6999 := e163 ▸ hW160.1 31
                  refine .inr ⟨_, rfl, ?_⟩
                  refine jx_rt (v := some (.int (i32 (nd)))) rfl rfl rfl rfl rfl rfl ?_
                  have z171 := tz_f (tk2_143)
                  exact ⟨_, _, _, at2_142, fk, op0, nd2_158, tk2_143, ec2_159, rfl, rfl, hW160, hF169, hP170, by omega, ((hF161.1 10 rfl).trans (e146)), ((hF161.1 16 rfl).trans ((hF145.1 16 rfl).trans (e_fk))), ((hF161.1 15 rfl).trans ((hF145.1 15 rfl).trans (e_op0))), (e163), ((hF161.1 11 rfl).trans (e147)), e164, by omega, by omega, by omega, by omega, by omega, by omega, by first | exact Or.inr (Or.inr ((⟨by omega, by omega, by omega, (wE_num p167 (by omega) (by omega)), by omega, by omega⟩)))⟩
              · have _q : True := trivial
                refine jx_if_eq (pc' := 59) (tg := 63) rfl rfl rfl (by decide) (by decide) (fun h172 => ?_) (fun h172 => ?_)
                · have _q := h172
                  refine jx_ar (pc' := 64) (st' := [.int (i32 (0))]) rfl rfl rfl rfl ?_
                  refine jx_ld (pc' := 65) (l' := jSto1 [(0, .ref 66)] 1 (.int (i32 (0)))) (st' := []) rfl rfl ?_
                  obtain ⟨L173, eL173⟩ : ∃ q, q = jSto1 [(0, .ref 66)] 1 (.int (i32 (0))) := ⟨_, rfl⟩
                  rw [← eL173]
                  have gL173_0 : jGet L173 0 = some (.ref 66) := eL173 ▸ jg_ne (by decide) (rfl : jGet [(0, .ref 66)] 0 = some (.ref 66)) rfl
                  have gL173_1 : jGet L173 1 = some (.int (i32 (0))) := eL173 ▸ jg_eq
                  refine jx_ld (pc' := 66) (l' := L173) (st' := [.ref 66]) rfl (jl_aloadn gL173_0) ?_
                  refine jx_vr (pc' := 69) (as := []) (st := []) rfl rfl rfl rfl ⟨rfl, rfl, Nat.le_of_ble_eq_true rfl⟩ rfl rfl (c_next (dd := d) (hd := by omega) (hW := hW)  (ln := ln) (e_ln := show G 9 = ln from (e_ln)) (le := le) (e_le := show A 4 (ln).toNat = le from (e_le)) (at0 := at0) (e_at0 := show G 10 = at0 from (e_at0))    (p_0 := by omega)) (fun o V' hq => ?_)
                  obtain ⟨G174, A175, at2_176, tk2_177, rfl, rfl, hW178, hF179, e180, e181, p182, p183, p184, -⟩ := hq
                  have hF186 := Fr_tr hF0 hF179 (Fr_sub (by decide)) (Fr_sub (by decide))
                  have hP187 := Pf_f hP0 hF179 (by decide)
                  have ec188 : ecn A175 (G174 31) = ec := (ecn_f (hF179.2 15 rfl) (hF179.1 31 rfl)).trans e_ec
                  have bat2_176 : (0 : Int) ≤ at2_176 ∧ at2_176 ≤ 3002 := e180 ▸ hW178.1 10
                  have ztk2_177 := tz_b tk2_177
                  have btk2_177 : (0 : Int) ≤ tk2_177 ∧ tk2_177 ≤ 5 := e181 ▸ hW178.1 11
                  refine .inl ⟨rfl, ?_⟩
                  have pz189 : at0 + tz tk2_177 ≤ at2_176 := by omega
                  refine jx_ld (pc' := 70) (l' := L173) (st' := [.ref 66]) rfl (jl_aloadn gL173_0) ?_
                  refine jx_ar (pc' := 71) (st' := [.int (i32 (1)), .ref 66]) rfl rfl rfl rfl ?_
                  refine jx_ld (pc' := 72) (l' := L173) (st' := [.int (i32 (0)), .int (i32 (1)), .ref 66]) rfl (jl_iloadn gL173_1) ?_
                  refine jx_ar (pc' := 73) (st' := [.int (i32 (0)), .int (i32 (0)), .int (i32 (1)), .ref 66]) rfl rfl rfl rfl ?_
                  refine jx_ar (pc' := 74) (st' := [.int (i32 (0)), .int (i32 (0)), .int (i32 (0)), .int (i32 (1)), .ref 66]) rfl rfl rfl rfl ?_
                  refine jx_ar (pc' := 75) (st' := [.int (i32 (0)), .int (i32 (0)), .int (i32 (0)), .int (i32 (0)), .int (i32 (1)), .ref 66]) rfl rfl rfl rfl ?_
                  refine jx_vr (pc' := 78) (as := [.int (i32 (1)), .int (i32 (0)), .int (i32 (0)), .int (i32 (0)), .int (i32 (0))]) (st := []) rfl rfl rfl rfl ⟨rfl, rfl, Nat.le_of_ble_eq_true rfl⟩ rfl rfl (c_node_o (dd := d) (hd := by omega) (hW := hW178) (kind := 1) (a := 0) (b := 0) (c := 0) (e := 0) (nd := nd) (e_nd := show G174 31 = nd from ((hF179.1 31 rfl).trans (e_nd))) (ec := ec) (e_ec := show ecn A175 (G174 31) = ec from ec188)  (h_kind := ⟨(by decide), (by decide)⟩) (h_a := ⟨(by decide), (by decide)⟩) (h_b := ⟨(by decide), (by decide)⟩) (h_c := ⟨(by decide), (by decide)⟩) (h_e := ⟨(by decide), (by decide)⟩)  (p_0 := by omega) (p_1 := by omega) (p_2 := by omega)) (fun o V' hq => ?_)
                  obtain ⟨G190, A191, nd2_192, ec2_193, rfl, rfl, hW194, hF195, hQ196, e197, e198, p199, p200, p201, -⟩ := hq
                  have hF203 := Fr_tr hF186 hF195 (Fr_sub (by decide)) (Fr_sub (by decide))
                  have hP204 := Pf_tr hP187 hQ196 (by omega)
                  have bnd2_192 : (0 : Int) ≤ nd2_192 ∧ nd2_192 ≤ 6999 := e197 ▸ hW194.1 31
                  refine .inr ⟨_, rfl, ?_⟩
                  refine jx_rt (v := some (.int (i32 (nd)))) rfl rfl rfl rfl rfl rfl ?_
                  have z205 := tz_f (tk2_177)
                  exact ⟨_, _, _, at2_176, fk, op0, nd2_192, tk2_177, ec2_193, rfl, rfl, hW194, hF203, hP204, by omega, ((hF195.1 10 rfl).trans (e180)), ((hF195.1 16 rfl).trans ((hF179.1 16 rfl).trans (e_fk))), ((hF195.1 15 rfl).trans ((hF179.1 15 rfl).trans (e_op0))), (e197), ((hF195.1 11 rfl).trans (e181)), e198, by omega, by omega, by omega, by omega, by omega, by omega, by first | exact Or.inr (Or.inr ((⟨by omega, by omega, by omega, (wE_num p201 (by omega) (by omega)), by omega, by omega⟩)))⟩
                · have _q := h172
                  exact absurd h172 (by omega)
            · have _q := h131
              refine jx_ld (pc' := 44) (l' := [(0, .ref 66)]) (st' := [.ref 66]) rfl (jl_aloadn rfl) ?_
              refine jr_get (pc' := 47) (i := 13) (v := .int (i32 (G 13))) rfl rfl (by decide) rfl rfl ?_
              refine jx_go (tg := 64) rfl rfl ?_
              refine jx_ld (pc' := 65) (l' := jSto1 [(0, .ref 66)] 1 (.int (i32 (G 13)))) (st' := []) rfl rfl ?_
              obtain ⟨L206, eL206⟩ : ∃ q, q = jSto1 [(0, .ref 66)] 1 (.int (i32 (G 13))) := ⟨_, rfl⟩
              rw [← eL206]
              have gL206_0 : jGet L206 0 = some (.ref 66) := eL206 ▸ jg_ne (by decide) (rfl : jGet [(0, .ref 66)] 0 = some (.ref 66)) rfl
              have gL206_1 : jGet L206 1 = some (.int (i32 (G 13))) := eL206 ▸ jg_eq
              refine jx_ld (pc' := 66) (l' := L206) (st' := [.ref 66]) rfl (jl_aloadn gL206_0) ?_
              refine jx_vr (pc' := 69) (as := []) (st := []) rfl rfl rfl rfl ⟨rfl, rfl, Nat.le_of_ble_eq_true rfl⟩ rfl rfl (c_next (dd := d) (hd := by omega) (hW := hW)  (ln := ln) (e_ln := show G 9 = ln from (e_ln)) (le := le) (e_le := show A 4 (ln).toNat = le from (e_le)) (at0 := at0) (e_at0 := show G 10 = at0 from (e_at0))    (p_0 := by omega)) (fun o V' hq => ?_)
              obtain ⟨G207, A208, at2_209, tk2_210, rfl, rfl, hW211, hF212, e213, e214, p215, p216, p217, -⟩ := hq
              have hF219 := Fr_tr hF0 hF212 (Fr_sub (by decide)) (Fr_sub (by decide))
              have hP220 := Pf_f hP0 hF212 (by decide)
              have ec221 : ecn A208 (G207 31) = ec := (ecn_f (hF212.2 15 rfl) (hF212.1 31 rfl)).trans e_ec
              have bat2_209 : (0 : Int) ≤ at2_209 ∧ at2_209 ≤ 3002 := e213 ▸ hW211.1 10
              have ztk2_210 := tz_b tk2_210
              have btk2_210 : (0 : Int) ≤ tk2_210 ∧ tk2_210 ≤ 5 := e214 ▸ hW211.1 11
              refine .inl ⟨rfl, ?_⟩
              have pz222 : at0 + tz tk2_210 ≤ at2_209 := by omega
              refine jx_ld (pc' := 70) (l' := L206) (st' := [.ref 66]) rfl (jl_aloadn gL206_0) ?_
              refine jx_ar (pc' := 71) (st' := [.int (i32 (1)), .ref 66]) rfl rfl rfl rfl ?_
              refine jx_ld (pc' := 72) (l' := L206) (st' := [.int (i32 (G 13)), .int (i32 (1)), .ref 66]) rfl (jl_iloadn gL206_1) ?_
              refine jx_ar (pc' := 73) (st' := [.int (i32 (0)), .int (i32 (G 13)), .int (i32 (1)), .ref 66]) rfl rfl rfl rfl ?_
              refine jx_ar (pc' := 74) (st' := [.int (i32 (0)), .int (i32 (0)), .int (i32 (G 13)), .int (i32 (1)), .ref 66]) rfl rfl rfl rfl ?_
              refine jx_ar (pc' := 75) (st' := [.int (i32 (0)), .int (i32 (0)), .int (i32 (0)), .int (i32 (G 13)), .int (i32 (1)), .ref 66]) rfl rfl rfl rfl ?_
              refine jx_vr (pc' := 78) (as := [.int (i32 (1)), .int (i32 (G 13)), .int (i32 (0)), .int (i32 (0)), .int (i32 (0))]) (st := []) rfl rfl rfl rfl ⟨rfl, rfl, Nat.le_of_ble_eq_true rfl⟩ rfl rfl (c_node_o (dd := d) (hd := by omega) (hW := hW211) (kind := 1) (a := G 13) (b := 0) (c := 0) (e := 0) (nd := nd) (e_nd := show G207 31 = nd from ((hF212.1 31 rfl).trans (e_nd))) (ec := ec) (e_ec := show ecn A208 (G207 31) = ec from ec221)  (h_kind := ⟨(by decide), (by decide)⟩) (h_a := ⟨(Int.le_trans (by decide : (-2147483648 : Int) ≤ -2147483648) b122.1), (Int.le_trans b122.2 (by decide : (2147483647 : Int) ≤ 2147483647))⟩) (h_b := ⟨(by decide), (by decide)⟩) (h_c := ⟨(by decide), (by decide)⟩) (h_e := ⟨(by decide), (by decide)⟩)  (p_0 := by omega) (p_1 := by omega) (p_2 := by omega)) (fun o V' hq => ?_)
              obtain ⟨G223, A224, nd2_225, ec2_226, rfl, rfl, hW227, hF228, hQ229, e230, e231, p232, p233, p234, -⟩ := hq
              have hF236 := Fr_tr hF219 hF228 (Fr_sub (by decide)) (Fr_sub (by decide))
              have hP237 := Pf_tr hP220 hQ229 (by omega)
              have bnd2_225 : (0 : Int) ≤ nd2_225 ∧ nd2_225 ≤ 6999 := e230 ▸ hW227.1 31
              refine .inr ⟨_, rfl, ?_⟩
              refine jx_rt (v := some (.int (i32 (nd)))) rfl rfl rfl rfl rfl rfl ?_
              have z238 := tz_f (tk2_210)
              exact ⟨_, _, _, at2_209, fk, op0, nd2_225, tk2_210, ec2_226, rfl, rfl, hW227, hF236, hP237, by omega, ((hF228.1 10 rfl).trans (e213)), ((hF228.1 16 rfl).trans ((hF212.1 16 rfl).trans (e_fk))), ((hF228.1 15 rfl).trans ((hF212.1 15 rfl).trans (e_op0))), (e230), ((hF228.1 11 rfl).trans (e214)), e231, by omega, by omega, by omega, by omega, by omega, by omega, by first | exact Or.inr (Or.inr ((⟨by omega, by omega, by omega, (wE_num p234 (by omega) (by omega)), by omega, by omega⟩)))⟩
          · have _q := h129
            exact absurd h129 (by omega)
        · have _q : True := trivial
          refine jx_if_ne (pc' := 26) (tg := 35) rfl rfl rfl (by decide) (by decide) (fun h239 => ?_) (fun h239 => ?_)
          · have _q := h239
            exact absurd h239 (by omega)
          · have _q := h239
            refine jx_ld (pc' := 27) (l' := [(0, .ref 66)]) (st' := [.ref 66]) rfl (jl_aloadn rfl) ?_
            refine jx_ar (pc' := 29) (st' := [.int (i32 (15)), .ref 66]) rfl rfl rfl rfl ?_
            refine jx_vr (pc' := 32) (as := [.int (i32 (15))]) (st := []) rfl rfl rfl rfl ⟨rfl, rfl, Nat.le_of_ble_eq_true rfl⟩ rfl rfl (c_isKey (dd := d) (hd := by omega) (hW := hW) (k := 15) (tk := tk0) (e_tk := show G 11 = tk0 from (e_tk0)) (tn := G 13) (e_tn := show G 13 = G 13 from rfl)  (h_k := ⟨(by decide), (by decide)⟩)  ) (fun o V' hq => ?_)
            obtain ⟨r240, rfl, rfl, b241, q242⟩ := hq
            refine .inr ⟨_, rfl, ?_⟩
            rcases q242 with ⟨rfl, a243, a244, a245⟩ | rfl
            · have _q : True := trivial
              refine jx_if_eq (pc' := 35) (tg := 79) rfl rfl rfl (by decide) (by decide) (fun h246 => ?_) (fun h246 => ?_)
              · have _q := h246
                exact absurd h246 (by omega)
              · have _q := h246
                refine jx_ld (pc' := 36) (l' := [(0, .ref 66)]) (st' := [.ref 66]) rfl (jl_aloadn rfl) ?_
                have z247 := tz_f (tk0)
                refine jr_get (pc' := 39) (i := 11) (v := .int (i32 (tk0))) rfl rfl (by decide) (rFv_eq (by decide) (show G 11 = tk0 from (e_tk0))) rfl ?_
                refine jx_ar (pc' := 40) (st' := [.int (i32 (3)), .int (i32 (tk0))]) rfl rfl rfl rfl ?_
                refine jx_icmp_ne (pc' := 43) (tg := 50) rfl rfl rfl (Int.le_trans (by decide : (-2147483648 : Int) ≤ 0) b_tk0.1) (Int.le_trans b_tk0.2 (by decide : (5 : Int) ≤ 2147483647)) (by decide) (by decide) (fun h248 => ?_) (fun h248 => ?_)
                · have _q := h248
                  refine jx_ld (pc' := 51) (l' := [(0, .ref 66)]) (st' := [.ref 66]) rfl (jl_aloadn rfl) ?_
                  refine jx_ar (pc' := 53) (st' := [.int (i32 (14)), .ref 66]) rfl rfl rfl rfl ?_
                  refine jx_vr (pc' := 56) (as := [.int (i32 (14))]) (st := []) rfl rfl rfl rfl ⟨rfl, rfl, Nat.le_of_ble_eq_true rfl⟩ rfl rfl (c_isKey (dd := d) (hd := by omega) (hW := hW) (k := 14) (tk := tk0) (e_tk := show G 11 = tk0 from (e_tk0)) (tn := G 13) (e_tn := show G 13 = G 13 from rfl)  (h_k := ⟨(by decide), (by decide)⟩)  ) (fun o V' hq => ?_)
                  obtain ⟨r249, rfl, rfl, b250, q251⟩ := hq
                  refine .inr ⟨_, rfl, ?_⟩
                  rcases q251 with ⟨rfl, a252, a253, a254⟩ | rfl
                  · have _q : True := trivial
                    refine jx_if_eq (pc' := 59) (tg := 63) rfl rfl rfl (by decide) (by decide) (fun h255 => ?_) (fun h255 => ?_)
                    · have _q := h255
                      exact absurd h255 (by omega)
                    · have _q := h255
                      refine jx_ar (pc' := 60) (st' := [.int (i32 (1))]) rfl rfl rfl rfl ?_
                      refine jx_go (tg := 64) rfl rfl ?_
                      refine jx_ld (pc' := 65) (l' := jSto1 [(0, .ref 66)] 1 (.int (i32 (1)))) (st' := []) rfl rfl ?_
                      obtain ⟨L256, eL256⟩ : ∃ q, q = jSto1 [(0, .ref 66)] 1 (.int (i32 (1))) := ⟨_, rfl⟩
                      rw [← eL256]
                      have gL256_0 : jGet L256 0 = some (.ref 66) := eL256 ▸ jg_ne (by decide) (rfl : jGet [(0, .ref 66)] 0 = some (.ref 66)) rfl
                      have gL256_1 : jGet L256 1 = some (.int (i32 (1))) := eL256 ▸ jg_eq
                      refine jx_ld (pc' := 66) (l' := L256) (st' := [.ref 66]) rfl (jl_aloadn gL256_0) ?_
                      refine jx_vr (pc' := 69) (as := []) (st := []) rfl rfl rfl rfl ⟨rfl, rfl, Nat.le_of_ble_eq_true rfl⟩ rfl rfl (c_next (dd := d) (hd := by omega) (hW := hW)  (ln := ln) (e_ln := show G 9 = ln from (e_ln)) (le := le) (e_le := show A 4 (ln).toNat = le from (e_le)) (at0 := at0) (e_at0 := show G 10 = at0 from (e_at0))    (p_0 := by omega)) (fun o V' hq => ?_)
                      obtain ⟨G257, A258, at2_259, tk2_260, rfl, rfl, hW261, hF262, e263, e264, p265, p266, p267, -⟩ := hq
                      have hF269 := Fr_tr hF0 hF262 (Fr_sub (by decide)) (Fr_sub (by decide))
                      have hP270 := Pf_f hP0 hF262 (by decide)
                      have ec271 : ecn A258 (G257 31) = ec := (ecn_f (hF262.2 15 rfl) (hF262.1 31 rfl)).trans e_ec
                      have bat2_259 : (0 : Int) ≤ at2_259 ∧ at2_259 ≤ 3002 := e263 ▸ hW261.1 10
                      have ztk2_260 := tz_b tk2_260
                      have btk2_260 : (0 : Int) ≤ tk2_260 ∧ tk2_260 ≤ 5 := e264 ▸ hW261.1 11
                      refine .inl ⟨rfl, ?_⟩
                      have pz272 : at0 + tz tk2_260 ≤ at2_259 := by omega
                      refine jx_ld (pc' := 70) (l' := L256) (st' := [.ref 66]) rfl (jl_aloadn gL256_0) ?_
                      refine jx_ar (pc' := 71) (st' := [.int (i32 (1)), .ref 66]) rfl rfl rfl rfl ?_
                      refine jx_ld (pc' := 72) (l' := L256) (st' := [.int (i32 (1)), .int (i32 (1)), .ref 66]) rfl (jl_iloadn gL256_1) ?_
                      refine jx_ar (pc' := 73) (st' := [.int (i32 (0)), .int (i32 (1)), .int (i32 (1)), .ref 66]) rfl rfl rfl rfl ?_
                      refine jx_ar (pc' := 74) (st' := [.int (i32 (0)), .int (i32 (0)), .int (i32 (1)), .int (i32 (1)), .ref 66]) rfl rfl rfl rfl ?_
                      refine jx_ar (pc' := 75) (st' := [.int (i32 (0)), .int (i32 (0)), .int (i32 (0)), .int (i32 (1)), .int (i32 (1)), .ref 66]) rfl rfl rfl rfl ?_
                      refine jx_vr (pc' := 78) (as := [.int (i32 (1)), .int (i32 (1)), .int (i32 (0)), .int (i32 (0)), .int (i32 (0))]) (st := []) rfl rfl rfl rfl ⟨rfl, rfl, Nat.le_of_ble_eq_true rfl⟩ rfl rfl (c_node_o (dd := d) (hd := by omega) (hW := hW261) (kind := 1) (a := 1) (b := 0) (c := 0) (e := 0) (nd := nd) (e_nd := show G257 31 = nd from ((hF262.1 31 rfl).trans (e_nd))) (ec := ec) (e_ec := show ecn A258 (G257 31) = ec from ec271)  (h_kind := ⟨(by decide), (by decide)⟩) (h_a := ⟨(by decide), (by decide)⟩) (h_b := ⟨(by decide), (by decide)⟩) (h_c := ⟨(by decide), (by decide)⟩) (h_e := ⟨(by decide), (by decide)⟩)  (p_0 := by omega) (p_1 := by omega) (p_2 := by omega)) (fun o V' hq => ?_)
                      obtain ⟨G273, A274, nd2_275, ec2_276, rfl, rfl, hW277, hF278, hQ279, e280, e281, p282, p283, p284, -⟩ := hq
                      have hF286 := Fr_tr hF269 hF278 (Fr_sub (by decide)) (Fr_sub (by decide))
                      have hP287 := Pf_tr hP270 hQ279 (by omega)
                      have bnd2_275 : (0 : Int) ≤ nd2_275 ∧ nd2_275 ≤ 6999 := e280 ▸ hW277.1 31
                      refine .inr ⟨_, rfl, ?_⟩
                      refine jx_rt (v := some (.int (i32 (nd)))) rfl rfl rfl rfl rfl rfl ?_
                      have z288 := tz_f (tk2_260)
                      exact ⟨_, _, _, at2_259, fk, op0, nd2_275, tk2_260, ec2_276, rfl, rfl, hW277, hF286, hP287, by omega, ((hF278.1 10 rfl).trans (e263)), ((hF278.1 16 rfl).trans ((hF262.1 16 rfl).trans (e_fk))), ((hF278.1 15 rfl).trans ((hF262.1 15 rfl).trans (e_op0))), (e280), ((hF278.1 11 rfl).trans (e264)), e281, by omega, by omega, by omega, by omega, by omega, by omega, by first | exact Or.inr (Or.inr ((⟨by omega, by omega, by omega, (wE_num p284 (by omega) (by omega)), by omega, by omega⟩)))⟩
                  · have _q : True := trivial
                    refine jx_if_eq (pc' := 59) (tg := 63) rfl rfl rfl (by decide) (by decide) (fun h289 => ?_) (fun h289 => ?_)
                    · have _q := h289
                      refine jx_ar (pc' := 64) (st' := [.int (i32 (0))]) rfl rfl rfl rfl ?_
                      refine jx_ld (pc' := 65) (l' := jSto1 [(0, .ref 66)] 1 (.int (i32 (0)))) (st' := []) rfl rfl ?_
                      obtain ⟨L290, eL290⟩ : ∃ q, q = jSto1 [(0, .ref 66)] 1 (.int (i32 (0))) := ⟨_, rfl⟩
                      rw [← eL290]
                      have gL290_0 : jGet L290 0 = some (.ref 66) := eL290 ▸ jg_ne (by decide) (rfl : jGet [(0, .ref 66)] 0 = some (.ref 66)) rfl
                      have gL290_1 : jGet L290 1 = some (.int (i32 (0))) := eL290 ▸ jg_eq
                      refine jx_ld (pc' := 66) (l' := L290) (st' := [.ref 66]) rfl (jl_aloadn gL290_0) ?_
                      refine jx_vr (pc' := 69) (as := []) (st := []) rfl rfl rfl rfl ⟨rfl, rfl, Nat.le_of_ble_eq_true rfl⟩ rfl rfl (c_next (dd := d) (hd := by omega) (hW := hW)  (ln := ln) (e_ln := show G 9 = ln from (e_ln)) (le := le) (e_le := show A 4 (ln).toNat = le from (e_le)) (at0 := at0) (e_at0 := show G 10 = at0 from (e_at0))    (p_0 := by omega)) (fun o V' hq => ?_)
                      obtain ⟨G291, A292, at2_293, tk2_294, rfl, rfl, hW295, hF296, e297, e298, p299, p300, p301, -⟩ := hq
                      have hF303 := Fr_tr hF0 hF296 (Fr_sub (by decide)) (Fr_sub (by decide))
                      have hP304 := Pf_f hP0 hF296 (by decide)
                      have ec305 : ecn A292 (G291 31) = ec := (ecn_f (hF296.2 15 rfl) (hF296.1 31 rfl)).trans e_ec
                      have bat2_293 : (0 : Int) ≤ at2_293 ∧ at2_293 ≤ 3002 := e297 ▸ hW295.1 10
                      have ztk2_294 := tz_b tk2_294
                      have btk2_294 : (0 : Int) ≤ tk2_294 ∧ tk2_294 ≤ 5 := e298 ▸ hW295.1 11
                      refine .inl ⟨rfl, ?_⟩
                      have pz306 : at0 + tz tk2_294 ≤ at2_293 := by omega
                      refine jx_ld (pc' := 70) (l' := L290) (st' := [.ref 66]) rfl (jl_aloadn gL290_0) ?_
                      refine jx_ar (pc' := 71) (st' := [.int (i32 (1)), .ref 66]) rfl rfl rfl rfl ?_
                      refine jx_ld (pc' := 72) (l' := L290) (st' := [.int (i32 (0)), .int (i32 (1)), .ref 66]) rfl (jl_iloadn gL290_1) ?_
                      refine jx_ar (pc' := 73) (st' := [.int (i32 (0)), .int (i32 (0)), .int (i32 (1)), .ref 66]) rfl rfl rfl rfl ?_
                      refine jx_ar (pc' := 74) (st' := [.int (i32 (0)), .int (i32 (0)), .int (i32 (0)), .int (i32 (1)), .ref 66]) rfl rfl rfl rfl ?_
                      refine jx_ar (pc' := 75) (st' := [.int (i32 (0)), .int (i32 (0)), .int (i32 (0)), .int (i32 (0)), .int (i32 (1)), .ref 66]) rfl rfl rfl rfl ?_
                      refine jx_vr (pc' := 78) (as := [.int (i32 (1)), .int (i32 (0)), .int (i32 (0)), .int (i32 (0)), .int (i32 (0))]) (st := []) rfl rfl rfl rfl ⟨rfl, rfl, Nat.le_of_ble_eq_true rfl⟩ rfl rfl (c_node_o (dd := d) (hd := by omega) (hW := hW295) (kind := 1) (a := 0) (b := 0) (c := 0) (e := 0) (nd := nd) (e_nd := show G291 31 = nd from ((hF296.1 31 rfl).trans (e_nd))) (ec := ec) (e_ec := show ecn A292 (G291 31) = ec from ec305)  (h_kind := ⟨(by decide), (by decide)⟩) (h_a := ⟨(by decide), (by decide)⟩) (h_b := ⟨(by decide), (by decide)⟩) (h_c := ⟨(by decide), (by decide)⟩) (h_e := ⟨(by decide), (by decide)⟩)  (p_0 := by omega) (p_1 := by omega) (p_2 := by omega)) (fun o V' hq => ?_)
                      obtain ⟨G307, A308, nd2_309, ec2_310, rfl, rfl, hW311, hF312, hQ313, e314, e315, p316, p317, p318, -⟩ := hq
                      have hF320 := Fr_tr hF303 hF312 (Fr_sub (by decide)) (Fr_sub (by decide))
                      have hP321 := Pf_tr hP304 hQ313 (by omega)
                      have bnd2_309 : (0 : Int) ≤ nd2_309 ∧ nd2_309 ≤ 6999 := e314 ▸ hW311.1 31
                      refine .inr ⟨_, rfl, ?_⟩
                      refine jx_rt (v := some (.int (i32 (nd)))) rfl rfl rfl rfl rfl rfl ?_
                      have z322 := tz_f (tk2_294)
                      exact ⟨_, _, _, at2_293, fk, op0, nd2_309, tk2_294, ec2_310, rfl, rfl, hW311, hF320, hP321, by omega, ((hF312.1 10 rfl).trans (e297)), ((hF312.1 16 rfl).trans ((hF296.1 16 rfl).trans (e_fk))), ((hF312.1 15 rfl).trans ((hF296.1 15 rfl).trans (e_op0))), (e314), ((hF312.1 11 rfl).trans (e298)), e315, by omega, by omega, by omega, by omega, by omega, by omega, by first | exact Or.inr (Or.inr ((⟨by omega, by omega, by omega, (wE_num p318 (by omega) (by omega)), by omega, by omega⟩)))⟩
                    · have _q := h289
                      exact absurd h289 (by omega)
                · have _q := h248
                  refine jx_ld (pc' := 44) (l' := [(0, .ref 66)]) (st' := [.ref 66]) rfl (jl_aloadn rfl) ?_
                  refine jr_get (pc' := 47) (i := 13) (v := .int (i32 (G 13))) rfl rfl (by decide) rfl rfl ?_
                  refine jx_go (tg := 64) rfl rfl ?_
                  refine jx_ld (pc' := 65) (l' := jSto1 [(0, .ref 66)] 1 (.int (i32 (G 13)))) (st' := []) rfl rfl ?_
                  obtain ⟨L323, eL323⟩ : ∃ q, q = jSto1 [(0, .ref 66)] 1 (.int (i32 (G 13))) := ⟨_, rfl⟩
                  rw [← eL323]
                  have gL323_0 : jGet L323 0 = some (.ref 66) := eL323 ▸ jg_ne (by decide) (rfl : jGet [(0, .ref 66)] 0 = some (.ref 66)) rfl
                  have gL323_1 : jGet L323 1 = some (.int (i32 (G 13))) := eL323 ▸ jg_eq
                  refine jx_ld (pc' := 66) (l' := L323) (st' := [.ref 66]) rfl (jl_aloadn gL323_0) ?_
                  refine jx_vr (pc' := 69) (as := []) (st := []) rfl rfl rfl rfl ⟨rfl, rfl, Nat.le_of_ble_eq_true rfl⟩ rfl rfl (c_next (dd := d) (hd := by omega) (hW := hW)  (ln := ln) (e_ln := show G 9 = ln from (e_ln)) (le := le) (e_le := show A 4 (ln).toNat = le from (e_le)) (at0 := at0) (e_at0 := show G 10 = at0 from (e_at0))    (p_0 := by omega)) (fun o V' hq => ?_)
                  obtain ⟨G324, A325, at2_326, tk2_327, rfl, rfl, hW328, hF329, e330, e331, p332, p333, p334, -⟩ := hq
                  have hF336 := Fr_tr hF0 hF329 (Fr_sub (by decide)) (Fr_sub (by decide))
                  have hP337 := Pf_f hP0 hF329 (by decide)
                  have ec338 : ecn A325 (G324 31) = ec := (ecn_f (hF329.2 15 rfl) (hF329.1 31 rfl)).trans e_ec
                  have bat2_326 : (0 : Int) ≤ at2_326 ∧ at2_326 ≤ 3002 := e330 ▸ hW328.1 10
                  have ztk2_327 := tz_b tk2_327
                  have btk2_327 : (0 : Int) ≤ tk2_327 ∧ tk2_327 ≤ 5 := e331 ▸ hW328.1 11
                  refine .inl ⟨rfl, ?_⟩
                  have pz339 : at0 + tz tk2_327 ≤ at2_326 := by omega
                  refine jx_ld (pc' := 70) (l' := L323) (st' := [.ref 66]) rfl (jl_aloadn gL323_0) ?_
                  refine jx_ar (pc' := 71) (st' := [.int (i32 (1)), .ref 66]) rfl rfl rfl rfl ?_
                  refine jx_ld (pc' := 72) (l' := L323) (st' := [.int (i32 (G 13)), .int (i32 (1)), .ref 66]) rfl (jl_iloadn gL323_1) ?_
                  refine jx_ar (pc' := 73) (st' := [.int (i32 (0)), .int (i32 (G 13)), .int (i32 (1)), .ref 66]) rfl rfl rfl rfl ?_
                  refine jx_ar (pc' := 74) (st' := [.int (i32 (0)), .int (i32 (0)), .int (i32 (G 13)), .int (i32 (1)), .ref 66]) rfl rfl rfl rfl ?_
                  refine jx_ar (pc' := 75) (st' := [.int (i32 (0)), .int (i32 (0)), .int (i32 (0)), .int (i32 (G 13)), .int (i32 (1)), .ref 66]) rfl rfl rfl rfl ?_
                  refine jx_vr (pc' := 78) (as := [.int (i32 (1)), .int (i32 (G 13)), .int (i32 (0)), .int (i32 (0)), .int (i32 (0))]) (st := []) rfl rfl rfl rfl ⟨rfl, rfl, Nat.le_of_ble_eq_true rfl⟩ rfl rfl (c_node_o (dd := d) (hd := by omega) (hW := hW328) (kind := 1) (a := G 13) (b := 0) (c := 0) (e := 0) (nd := nd) (e_nd := show G324 31 = nd from ((hF329.1 31 rfl).trans (e_nd))) (ec := ec) (e_ec := show ecn A325 (G324 31) = ec from ec338)  (h_kind := ⟨(by decide), (by decide)⟩) (h_a := ⟨(Int.le_trans (by decide : (-2147483648 : Int) ≤ -2147483648) b122.1), (Int.le_trans b122.2 (by decide : (2147483647 : Int) ≤ 2147483647))⟩) (h_b := ⟨(by decide), (by decide)⟩) (h_c := ⟨(by decide), (by decide)⟩) (h_e := ⟨(by decide), (by decide)⟩)  (p_0 := by omega) (p_1 := by omega) (p_2 := by omega)) (fun o V' hq => ?_)
                  obtain ⟨G340, A341, nd2_342, ec2_343, rfl, rfl, hW344, hF345, hQ346, e347, e348, p349, p350, p351, -⟩ := hq
                  have hF353 := Fr_tr hF336 hF345 (Fr_sub (by decide)) (Fr_sub (by decide))
                  have hP354 := Pf_tr hP337 hQ346 (by omega)
                  have bnd2_342 : (0 : Int) ≤ nd2_342 ∧ nd2_342 ≤ 6999 := e347 ▸ hW344.1 31
                  refine .inr ⟨_, rfl, ?_⟩
                  refine jx_rt (v := some (.int (i32 (nd)))) rfl rfl rfl rfl rfl rfl ?_
                  have z355 := tz_f (tk2_327)
                  exact ⟨_, _, _, at2_326, fk, op0, nd2_342, tk2_327, ec2_343, rfl, rfl, hW344, hF353, hP354, by omega, ((hF345.1 10 rfl).trans (e330)), ((hF345.1 16 rfl).trans ((hF329.1 16 rfl).trans (e_fk))), ((hF345.1 15 rfl).trans ((hF329.1 15 rfl).trans (e_op0))), (e347), ((hF345.1 11 rfl).trans (e331)), e348, by omega, by omega, by omega, by omega, by omega, by omega, by first | exact Or.inr (Or.inr ((⟨by omega, by omega, by omega, (wE_num p351 (by omega) (by omega)), by omega, by omega⟩)))⟩
            · have _q : True := trivial
              refine jx_if_eq (pc' := 35) (tg := 79) rfl rfl rfl (by decide) (by decide) (fun h356 => ?_) (fun h356 => ?_)
              · have _q := h356
                refine jx_ld (pc' := 80) (l' := [(0, .ref 66)]) (st' := [.ref 66]) rfl (jl_aloadn rfl) ?_
                refine jx_ar (pc' := 82) (st' := [.int (i32 (40)), .ref 66]) rfl rfl rfl rfl ?_
                refine jx_vr (pc' := 85) (as := [.int (i32 (40))]) (st := []) rfl rfl rfl rfl ⟨rfl, rfl, Nat.le_of_ble_eq_true rfl⟩ rfl rfl (c_is (dd := d) (hd := by omega) (hW := hW) (k := 40) (tk := tk0) (e_tk := show G 11 = tk0 from (e_tk0)) (tn := G 13) (e_tn := show G 13 = G 13 from rfl)  (h_k := ⟨(by decide), (by decide)⟩)  ) (fun o V' hq => ?_)
                obtain ⟨r357, rfl, rfl, b358, q359⟩ := hq
                refine .inr ⟨_, rfl, ?_⟩
                rcases q359 with ⟨rfl, a360, a361, a362⟩ | rfl
                · have _q : True := trivial
                  refine jx_if_eq (pc' := 88) (tg := 133) rfl rfl rfl (by decide) (by decide) (fun h363 => ?_) (fun h363 => ?_)
                  · have _q := h363
                    exact absurd h363 (by omega)
                  · have _q := h363
                    refine jx_ld (pc' := 89) (l' := [(0, .ref 66)]) (st' := [.ref 66]) rfl (jl_aloadn rfl) ?_
                    refine jx_vr (pc' := 92) (as := []) (st := []) rfl rfl rfl rfl ⟨rfl, rfl, Nat.le_of_ble_eq_true rfl⟩ rfl rfl (c_open (dd := d) (hd := by omega) (hW := hW)  (fk := fk) (e_fk := show G 16 = fk from (e_fk)) (op0 := op0) (e_op0 := show G 15 = op0 from (e_op0))    (p_0 := by omega)) (fun o V' hq => ?_)
                    obtain ⟨G364, A365, fk2_366, op2_367, rfl, rfl, hW368, hF369, e370, e371, p372, q373⟩ := hq
                    have hF374 := Fr_tr hF0 hF369 (Fr_sub (by decide)) (Fr_sub (by decide))
                    have hP375 := Pf_f hP0 hF369 (by decide)
                    have ec376 : ecn A365 (G364 31) = ec := (ecn_f (hF369.2 15 rfl) (hF369.1 31 rfl)).trans e_ec
                    have bfk2_366 : (0 : Int) ≤ fk2_366 ∧ fk2_366 ≤ 6 := e370 ▸ hW368.1 16
                    have bop2_367 : (-2147483648 : Int) ≤ op2_367 ∧ op2_367 ≤ 2147483647 := e371 ▸ hW368.1 15
                    refine .inl ⟨rfl, ?_⟩
                    rcases q373 with a377 | ⟨a378, a379, a380⟩
                    · have _q : True := trivial
                      refine jx_ld (pc' := 93) (l' := [(0, .ref 66)]) (st' := [.ref 66]) rfl (jl_aloadn rfl) ?_
                      refine jx_ar (pc' := 94) (st' := [.int (i32 (1)), .ref 66]) rfl rfl rfl rfl ?_
                      refine jx_vr (pc' := 97) (as := [.int (i32 (1))]) (st := []) rfl rfl rfl rfl ⟨rfl, rfl, Nat.le_of_ble_eq_true rfl⟩ rfl rfl (c_need (dd := d) (hd := by omega) (hW := hW368) (g := 1) (ln := ln) (e_ln := show G364 9 = ln from ((hF369.1 9 rfl).trans (e_ln))) (le := le) (e_le := show A365 4 (ln).toNat = le from (congrFun (hF369.2 4 rfl) _).trans (e_le)) (at0 := at0) (e_at0 := show G364 10 = at0 from ((hF369.1 10 rfl).trans (e_at0))) (fk := fk2_366) (e_fk := show G364 16 = fk2_366 from (e370)) (tk0 := tk0) (e_tk0 := show G364 11 = tk0 from ((hF369.1 11 rfl).trans (e_tk0)))  (h_g := ⟨(by decide), (by decide)⟩)  (p_0 := by omega)) (fun o V' hq => ?_)
                      obtain ⟨G381, A382, at2_383, tk2_384, fk2_385, rfl, rfl, hW386, hF387, e388, e389, e390, p391, p392, q393⟩ := hq
                      have hF394 := Fr_tr hF374 hF387 (Fr_sub (by decide)) (Fr_sub (by decide))
                      have hP395 := Pf_f hP375 hF387 (by decide)
                      have ec396 : ecn A382 (G381 31) = ec := (ecn_f (hF387.2 15 rfl) (hF387.1 31 rfl)).trans ec376
                      have bat2_383 : (0 : Int) ≤ at2_383 ∧ at2_383 ≤ 3002 := e388 ▸ hW386.1 10
                      have ztk2_384 := tz_b tk2_384
                      have btk2_384 : (0 : Int) ≤ tk2_384 ∧ tk2_384 ≤ 5 := e389 ▸ hW386.1 11
                      have bfk2_385 : (0 : Int) ≤ fk2_385 ∧ fk2_385 ≤ 6 := e390 ▸ hW386.1 16
                      refine .inl ⟨rfl, ?_⟩
                      rcases q393 with ⟨a397, a398, a399, a400⟩ | ⟨a401, a402, a403, a404⟩
                      · have _q : True := trivial
                        refine jx_ld (pc' := 98) (l' := [(0, .ref 66)]) (st' := [.ref 66]) rfl (jl_aloadn rfl) ?_
                        refine jx_vr (pc' := 101) (as := []) (st := []) rfl rfl rfl rfl ⟨rfl, rfl, Nat.le_of_ble_eq_true rfl⟩ rfl rfl (hE (dd := d) (hd := by omega) (hW := hW386)  (ln := ln) (e_ln := show G381 9 = ln from ((hF387.1 9 rfl).trans ((hF369.1 9 rfl).trans (e_ln)))) (le := le) (e_le := show A382 4 (ln).toNat = le from (congrFun ((hF387.2 4 rfl).trans (hF369.2 4 rfl)) _).trans (e_le)) (at0 := at2_383) (e_at0 := show G381 10 = at2_383 from (e388)) (fk := fk2_385) (e_fk := show G381 16 = fk2_385 from (e390)) (op0 := op2_367) (e_op0 := show G381 15 = op2_367 from ((hF387.1 15 rfl).trans (e371))) (nd := nd) (e_nd := show G381 31 = nd from ((hF387.1 31 rfl).trans ((hF369.1 31 rfl).trans (e_nd)))) (tk0 := tk2_384) (e_tk0 := show G381 11 = tk2_384 from (e389)) (ec := ec) (e_ec := show ecn A382 (G381 31) = ec from ec396) (i_SV := (SV_ext (((hF387.1 29 rfl).trans (hF369.1 29 rfl))) (((hF387.2 14 rfl).trans (hF369.2 14 rfl))) i_SV))   (p_0 := by omega) (p_1 := by omega) (p_2 := by omega) (p_3 := by omega) (p_4 := by omega) (p_5 := by omega)) (fun o V' hq => ?_)
                        obtain ⟨G405, A406, r407, at2_408, fk2_409, op2_410, nd2_411, tk2_412, ec2_413, rfl, rfl, hW414, hF415, hQ416, b417, e418, e419, e420, e421, e422, e423, p424, p425, p426, p427, p428, p429, q430⟩ := hq
                        have hF431 := Fr_tr hF394 hF415 (Fr_sub (by decide)) (Fr_sub (by decide))
                        have hP432 := Pf_tr hP395 hQ416 (by omega)
                        have bat2_408 : (0 : Int) ≤ at2_408 ∧ at2_408 ≤ 3002 := e418 ▸ hW414.1 10
                        have bfk2_409 : (0 : Int) ≤ fk2_409 ∧ fk2_409 ≤ 6 := e419 ▸ hW414.1 16
                        have bop2_410 : (-2147483648 : Int) ≤ op2_410 ∧ op2_410 ≤ 2147483647 := e420 ▸ hW414.1 15
                        have bnd2_411 : (0 : Int) ≤ nd2_411 ∧ nd2_411 ≤ 6999 := e421 ▸ hW414.1 31
                        have ztk2_412 := tz_b tk2_412
                        have btk2_412 : (0 : Int) ≤ tk2_412 ∧ tk2_412 ≤ 5 := e422 ▸ hW414.1 11
                        refine .inr ⟨_, rfl, ?_⟩
                        rcases q430 with ⟨a433, a434, a435, a436, a437, a438⟩ | ⟨a439, a440, a441⟩ | ⟨a442, a443, a444, a445, a446, a447⟩
                        · have _q : True := trivial
                          refine jx_ld (pc' := 102) (l' := jSto1 [(0, .ref 66)] 1 (.int (i32 (r407)))) (st' := []) rfl rfl ?_
                          obtain ⟨L448, eL448⟩ : ∃ q, q = jSto1 [(0, .ref 66)] 1 (.int (i32 (r407))) := ⟨_, rfl⟩
                          rw [← eL448]
                          have gL448_0 : jGet L448 0 = some (.ref 66) := eL448 ▸ jg_ne (by decide) (rfl : jGet [(0, .ref 66)] 0 = some (.ref 66)) rfl
                          have gL448_1 : jGet L448 1 = some (.int (i32 (r407))) := eL448 ▸ jg_eq
                          refine jx_ld (pc' := 103) (l' := L448) (st' := [.ref 66]) rfl (jl_aloadn gL448_0) ?_
                          refine jx_ld (pc' := 104) (l' := L448) (st' := [.ref 66, .ref 66]) rfl (jl_aloadn gL448_0) ?_
                          refine jx_ar (pc' := 106) (st' := [.int (i32 (41)), .ref 66, .ref 66]) rfl rfl rfl rfl ?_
                          have b449 : (-2147483648 : Int) ≤ G405 13 ∧ G405 13 ≤ 2147483647 := hW414.1 13
                          refine jx_vr (pc' := 109) (as := [.int (i32 (41))]) (st := [.ref 66]) rfl rfl rfl rfl ⟨rfl, rfl, Nat.le_of_ble_eq_true rfl⟩ rfl rfl (c_is (dd := d) (hd := by omega) (hW := hW414) (k := 41) (tk := tk2_412) (e_tk := show G405 11 = tk2_412 from (e422)) (tn := G405 13) (e_tn := show G405 13 = G405 13 from rfl)  (h_k := ⟨(by decide), (by decide)⟩)  ) (fun o V' hq => ?_)
                          obtain ⟨r450, rfl, rfl, b451, q452⟩ := hq
                          refine .inr ⟨_, rfl, ?_⟩
                          rcases q452 with ⟨rfl, a453, a454, a455⟩ | rfl
                          · have _q : True := trivial
                            refine jx_vr (pc' := 112) (as := [.int (i32 (1))]) (st := []) rfl rfl rfl rfl ⟨rfl, rfl, Nat.le_of_ble_eq_true rfl⟩ rfl rfl (c_need (dd := d) (hd := by omega) (hW := hW414) (g := 1) (ln := ln) (e_ln := show G405 9 = ln from ((hF415.1 9 rfl).trans ((hF387.1 9 rfl).trans ((hF369.1 9 rfl).trans (e_ln))))) (le := le) (e_le := show A406 4 (ln).toNat = le from (congrFun ((hF415.2 4 rfl).trans ((hF387.2 4 rfl).trans (hF369.2 4 rfl))) _).trans (e_le)) (at0 := at2_408) (e_at0 := show G405 10 = at2_408 from (e418)) (fk := fk2_409) (e_fk := show G405 16 = fk2_409 from (e419)) (tk0 := tk2_412) (e_tk0 := show G405 11 = tk2_412 from (e422))  (h_g := ⟨(by decide), (by decide)⟩)  (p_0 := by omega)) (fun o V' hq => ?_)
                            obtain ⟨G456, A457, at2_458, tk2_459, fk2_460, rfl, rfl, hW461, hF462, e463, e464, e465, p466, p467, q468⟩ := hq
                            have hF469 := Fr_tr hF431 hF462 (Fr_sub (by decide)) (Fr_sub (by decide))
                            have hP470 := Pf_f hP432 hF462 (by decide)
                            have ec471 : ecn A457 (G456 31) = ec2_413 := (ecn_f (hF462.2 15 rfl) (hF462.1 31 rfl)).trans e423
                            have bat2_458 : (0 : Int) ≤ at2_458 ∧ at2_458 ≤ 3002 := e463 ▸ hW461.1 10
                            have ztk2_459 := tz_b tk2_459
                            have btk2_459 : (0 : Int) ≤ tk2_459 ∧ tk2_459 ≤ 5 := e464 ▸ hW461.1 11
                            have bfk2_460 : (0 : Int) ≤ fk2_460 ∧ fk2_460 ≤ 6 := e465 ▸ hW461.1 16
                            refine .inl ⟨rfl, ?_⟩
                            rcases q468 with ⟨a472, a473, a474, a475⟩ | ⟨a476, a477, a478, a479⟩
                            · have _q : True := trivial
                              refine jx_ld (pc' := 113) (l' := L448) (st' := [.ref 66]) rfl (jl_aloadn gL448_0) ?_
                              refine jx_ar (pc' := 114) (st' := [.ref 66, .ref 66]) rfl rfl rfl rfl ?_
                              refine jr_get (pc' := 117) (i := 15) (v := .int (i32 (op2_410))) rfl rfl (by decide) (rFv_eq (by decide) (show G456 15 = op2_410 from ((hF462.1 15 rfl).trans (e420)))) rfl ?_
                              refine jx_ar (pc' := 118) (st' := [.int (i32 (1)), .int (i32 (op2_410)), .ref 66]) rfl rfl rfl rfl ?_
                              refine jx_sub (pc' := 119) rfl rfl ?_
                              refine jr_put (pc' := 122) (i := 15) (z := (op2_410 - 1)) rfl rfl (by decide) rfl rfl rfl rfl rfl rfl ?_
                              have hW480 : Wk (uG G456 15 ((op2_410 - 1))) A457 := Wk_g hW461 (show (-2147483648 : Int) ≤ (op2_410 - 1) by omega) (show (op2_410 - 1) ≤ (2147483647 : Int) by omega)
                              have hF481 := Fr_g (z := (op2_410 - 1)) (i := 15) hF469 (by decide)
                              have ec482 : ecn A457 ((uG G456 15 ((op2_410 - 1))) 31) = ec2_413 := ec471
                              refine jx_ld (pc' := 123) (l' := L448) (st' := [.ref 66]) rfl (jl_aloadn gL448_0) ?_
                              refine jx_ar (pc' := 125) (st' := [.int (i32 (7)), .ref 66]) rfl rfl rfl rfl ?_
                              refine jx_ld (pc' := 126) (l' := L448) (st' := [.int (i32 (r407)), .int (i32 (7)), .ref 66]) rfl (jl_iloadn gL448_1) ?_
                              refine jx_ar (pc' := 127) (st' := [.int (i32 (0)), .int (i32 (r407)), .int (i32 (7)), .ref 66]) rfl rfl rfl rfl ?_
                              refine jx_ar (pc' := 128) (st' := [.int (i32 (0)), .int (i32 (0)), .int (i32 (r407)), .int (i32 (7)), .ref 66]) rfl rfl rfl rfl ?_
                              refine jx_ar (pc' := 129) (st' := [.int (i32 (0)), .int (i32 (0)), .int (i32 (0)), .int (i32 (r407)), .int (i32 (7)), .ref 66]) rfl rfl rfl rfl ?_
                              refine jx_vr (pc' := 132) (as := [.int (i32 (7)), .int (i32 (r407)), .int (i32 (0)), .int (i32 (0)), .int (i32 (0))]) (st := []) rfl rfl rfl rfl ⟨rfl, rfl, Nat.le_of_ble_eq_true rfl⟩ rfl rfl (c_node_o (dd := d) (hd := by omega) (hW := hW480) (kind := 7) (a := r407) (b := 0) (c := 0) (e := 0) (nd := nd2_411) (e_nd := show (uG G456 15 ((op2_410 - 1))) 31 = nd2_411 from ((hF462.1 31 rfl).trans (e421))) (ec := ec2_413) (e_ec := show ecn A457 ((uG G456 15 ((op2_410 - 1))) 31) = ec2_413 from ec482)  (h_kind := ⟨(by decide), (by decide)⟩) (h_a := ⟨(Int.le_trans (by decide : (-2147483648 : Int) ≤ -2147483648) b417.1), (Int.le_trans b417.2 (by decide : (2147483647 : Int) ≤ 2147483647))⟩) (h_b := ⟨(by decide), (by decide)⟩) (h_c := ⟨(by decide), (by decide)⟩) (h_e := ⟨(by decide), (by decide)⟩)  (p_0 := by omega) (p_1 := by omega) (p_2 := by omega)) (fun o V' hq => ?_)
                              obtain ⟨G483, A484, nd2_485, ec2_486, rfl, rfl, hW487, hF488, hQ489, e490, e491, p492, p493, p494, -⟩ := hq
                              have hF496 := Fr_tr hF481 hF488 (Fr_sub (by decide)) (Fr_sub (by decide))
                              have hP497 := Pf_tr hP470 hQ489 (by omega)
                              have bnd2_485 : (0 : Int) ≤ nd2_485 ∧ nd2_485 ≤ 6999 := e490 ▸ hW487.1 31
                              refine .inr ⟨_, rfl, ?_⟩
                              refine jx_rt (v := some (.int (i32 (nd2_411)))) rfl rfl rfl rfl rfl rfl ?_
                              have z498 := tz_f (tk2_459)
                              exact ⟨_, _, _, at2_458, fk2_460, (op2_410 - 1), nd2_485, tk2_459, ec2_486, rfl, rfl, hW487, hF496, hP497, by omega, ((hF488.1 10 rfl).trans (e463)), ((hF488.1 16 rfl).trans (e465)), (hF488.1 15 rfl), (e490), ((hF488.1 11 rfl).trans (e464)), e491, by omega, by omega, by omega, by omega, by omega, by omega, by first | exact Or.inr (Or.inl (⟨by omega, by omega, by omega⟩))⟩
                            · have _q : True := trivial
                              exfalso
                              omega
                          · have _q : True := trivial
                            refine jx_vr (pc' := 112) (as := [.int (i32 (0))]) (st := []) rfl rfl rfl rfl ⟨rfl, rfl, Nat.le_of_ble_eq_true rfl⟩ rfl rfl (c_need (dd := d) (hd := by omega) (hW := hW414) (g := 0) (ln := ln) (e_ln := show G405 9 = ln from ((hF415.1 9 rfl).trans ((hF387.1 9 rfl).trans ((hF369.1 9 rfl).trans (e_ln))))) (le := le) (e_le := show A406 4 (ln).toNat = le from (congrFun ((hF415.2 4 rfl).trans ((hF387.2 4 rfl).trans (hF369.2 4 rfl))) _).trans (e_le)) (at0 := at2_408) (e_at0 := show G405 10 = at2_408 from (e418)) (fk := fk2_409) (e_fk := show G405 16 = fk2_409 from (e419)) (tk0 := tk2_412) (e_tk0 := show G405 11 = tk2_412 from (e422))  (h_g := ⟨(by decide), (by decide)⟩)  (p_0 := by omega)) (fun o V' hq => ?_)
                            obtain ⟨G499, A500, at2_501, tk2_502, fk2_503, rfl, rfl, hW504, hF505, e506, e507, e508, p509, p510, q511⟩ := hq
                            have hF512 := Fr_tr hF431 hF505 (Fr_sub (by decide)) (Fr_sub (by decide))
                            have hP513 := Pf_f hP432 hF505 (by decide)
                            have ec514 : ecn A500 (G499 31) = ec2_413 := (ecn_f (hF505.2 15 rfl) (hF505.1 31 rfl)).trans e423
                            have bat2_501 : (0 : Int) ≤ at2_501 ∧ at2_501 ≤ 3002 := e506 ▸ hW504.1 10
                            have ztk2_502 := tz_b tk2_502
                            have btk2_502 : (0 : Int) ≤ tk2_502 ∧ tk2_502 ≤ 5 := e507 ▸ hW504.1 11
                            have bfk2_503 : (0 : Int) ≤ fk2_503 ∧ fk2_503 ≤ 6 := e508 ▸ hW504.1 16
                            refine .inl ⟨rfl, ?_⟩
                            rcases q511 with ⟨a515, a516, a517, a518⟩ | ⟨a519, a520, a521, a522⟩
                            · have _q : True := trivial
                              refine jx_ld (pc' := 113) (l' := L448) (st' := [.ref 66]) rfl (jl_aloadn gL448_0) ?_
                              refine jx_ar (pc' := 114) (st' := [.ref 66, .ref 66]) rfl rfl rfl rfl ?_
                              refine jr_get (pc' := 117) (i := 15) (v := .int (i32 (op2_410))) rfl rfl (by decide) (rFv_eq (by decide) (show G499 15 = op2_410 from ((hF505.1 15 rfl).trans (e420)))) rfl ?_
                              refine jx_ar (pc' := 118) (st' := [.int (i32 (1)), .int (i32 (op2_410)), .ref 66]) rfl rfl rfl rfl ?_
                              refine jx_sub (pc' := 119) rfl rfl ?_
                              refine jr_put (pc' := 122) (i := 15) (z := (op2_410 - 1)) rfl rfl (by decide) rfl rfl rfl rfl rfl rfl ?_
                              have hW523 : Wk (uG G499 15 ((op2_410 - 1))) A500 := Wk_g hW504 (show (-2147483648 : Int) ≤ (op2_410 - 1) by omega) (show (op2_410 - 1) ≤ (2147483647 : Int) by omega)
                              have hF524 := Fr_g (z := (op2_410 - 1)) (i := 15) hF512 (by decide)
                              have ec525 : ecn A500 ((uG G499 15 ((op2_410 - 1))) 31) = ec2_413 := ec514
                              refine jx_ld (pc' := 123) (l' := L448) (st' := [.ref 66]) rfl (jl_aloadn gL448_0) ?_
                              refine jx_ar (pc' := 125) (st' := [.int (i32 (7)), .ref 66]) rfl rfl rfl rfl ?_
                              refine jx_ld (pc' := 126) (l' := L448) (st' := [.int (i32 (r407)), .int (i32 (7)), .ref 66]) rfl (jl_iloadn gL448_1) ?_
                              refine jx_ar (pc' := 127) (st' := [.int (i32 (0)), .int (i32 (r407)), .int (i32 (7)), .ref 66]) rfl rfl rfl rfl ?_
                              refine jx_ar (pc' := 128) (st' := [.int (i32 (0)), .int (i32 (0)), .int (i32 (r407)), .int (i32 (7)), .ref 66]) rfl rfl rfl rfl ?_
                              refine jx_ar (pc' := 129) (st' := [.int (i32 (0)), .int (i32 (0)), .int (i32 (0)), .int (i32 (r407)), .int (i32 (7)), .ref 66]) rfl rfl rfl rfl ?_
                              refine jx_vr (pc' := 132) (as := [.int (i32 (7)), .int (i32 (r407)), .int (i32 (0)), .int (i32 (0)), .int (i32 (0))]) (st := []) rfl rfl rfl rfl ⟨rfl, rfl, Nat.le_of_ble_eq_true rfl⟩ rfl rfl (c_node_o (dd := d) (hd := by omega) (hW := hW523) (kind := 7) (a := r407) (b := 0) (c := 0) (e := 0) (nd := nd2_411) (e_nd := show (uG G499 15 ((op2_410 - 1))) 31 = nd2_411 from ((hF505.1 31 rfl).trans (e421))) (ec := ec2_413) (e_ec := show ecn A500 ((uG G499 15 ((op2_410 - 1))) 31) = ec2_413 from ec525)  (h_kind := ⟨(by decide), (by decide)⟩) (h_a := ⟨(Int.le_trans (by decide : (-2147483648 : Int) ≤ -2147483648) b417.1), (Int.le_trans b417.2 (by decide : (2147483647 : Int) ≤ 2147483647))⟩) (h_b := ⟨(by decide), (by decide)⟩) (h_c := ⟨(by decide), (by decide)⟩) (h_e := ⟨(by decide), (by decide)⟩)  (p_0 := by omega) (p_1 := by omega) (p_2 := by omega)) (fun o V' hq => ?_)
                              obtain ⟨G526, A527, nd2_528, ec2_529, rfl, rfl, hW530, hF531, hQ532, e533, e534, p535, p536, p537, -⟩ := hq
                              have hF539 := Fr_tr hF524 hF531 (Fr_sub (by decide)) (Fr_sub (by decide))
                              have hP540 := Pf_tr hP513 hQ532 (by omega)
                              have bnd2_528 : (0 : Int) ≤ nd2_528 ∧ nd2_528 ≤ 6999 := e533 ▸ hW530.1 31
                              refine .inr ⟨_, rfl, ?_⟩
                              refine jx_rt (v := some (.int (i32 (nd2_411)))) rfl rfl rfl rfl rfl rfl ?_
                              have z541 := tz_f (tk2_502)
                              exact ⟨_, _, _, at2_501, fk2_503, (op2_410 - 1), nd2_528, tk2_502, ec2_529, rfl, rfl, hW530, hF539, hP540, by omega, ((hF531.1 10 rfl).trans (e506)), ((hF531.1 16 rfl).trans (e508)), (hF531.1 15 rfl), (e533), ((hF531.1 11 rfl).trans (e507)), e534, by omega, by omega, by omega, by omega, by omega, by omega, by first | exact Or.inr (Or.inl (⟨by omega, by omega, by omega⟩))⟩
                            · have _q : True := trivial
                              exfalso
                              omega
                        · have _q : True := trivial
                          exfalso
                          omega
                        · have _q : True := trivial
                          exfalso
                          omega
                      · have _q : True := trivial
                        exfalso
                        omega
                    · have _q : True := trivial
                      refine jx_ld (pc' := 93) (l' := [(0, .ref 66)]) (st' := [.ref 66]) rfl (jl_aloadn rfl) ?_
                      refine jx_ar (pc' := 94) (st' := [.int (i32 (1)), .ref 66]) rfl rfl rfl rfl ?_
                      refine jx_vr (pc' := 97) (as := [.int (i32 (1))]) (st := []) rfl rfl rfl rfl ⟨rfl, rfl, Nat.le_of_ble_eq_true rfl⟩ rfl rfl (c_need (dd := d) (hd := by omega) (hW := hW368) (g := 1) (ln := ln) (e_ln := show G364 9 = ln from ((hF369.1 9 rfl).trans (e_ln))) (le := le) (e_le := show A365 4 (ln).toNat = le from (congrFun (hF369.2 4 rfl) _).trans (e_le)) (at0 := at0) (e_at0 := show G364 10 = at0 from ((hF369.1 10 rfl).trans (e_at0))) (fk := fk2_366) (e_fk := show G364 16 = fk2_366 from (e370)) (tk0 := tk0) (e_tk0 := show G364 11 = tk0 from ((hF369.1 11 rfl).trans (e_tk0)))  (h_g := ⟨(by decide), (by decide)⟩)  (p_0 := by omega)) (fun o V' hq => ?_)
                      obtain ⟨G542, A543, at2_544, tk2_545, fk2_546, rfl, rfl, hW547, hF548, e549, e550, e551, p552, p553, q554⟩ := hq
                      have hF555 := Fr_tr hF374 hF548 (Fr_sub (by decide)) (Fr_sub (by decide))
                      have hP556 := Pf_f hP375 hF548 (by decide)
                      have ec557 : ecn A543 (G542 31) = ec := (ecn_f (hF548.2 15 rfl) (hF548.1 31 rfl)).trans ec376
                      have bat2_544 : (0 : Int) ≤ at2_544 ∧ at2_544 ≤ 3002 := e549 ▸ hW547.1 10
                      have ztk2_545 := tz_b tk2_545
                      have btk2_545 : (0 : Int) ≤ tk2_545 ∧ tk2_545 ≤ 5 := e550 ▸ hW547.1 11
                      have bfk2_546 : (0 : Int) ≤ fk2_546 ∧ fk2_546 ≤ 6 := e551 ▸ hW547.1 16
                      refine .inl ⟨rfl, ?_⟩
                      rcases q554 with ⟨a558, a559, a560, a561⟩ | ⟨a562, a563, a564, a565⟩
                      · have _q : True := trivial
                        refine jx_ld (pc' := 98) (l' := [(0, .ref 66)]) (st' := [.ref 66]) rfl (jl_aloadn rfl) ?_
                        refine jx_vr (pc' := 101) (as := []) (st := []) rfl rfl rfl rfl ⟨rfl, rfl, Nat.le_of_ble_eq_true rfl⟩ rfl rfl (hE (dd := d) (hd := by omega) (hW := hW547)  (ln := ln) (e_ln := show G542 9 = ln from ((hF548.1 9 rfl).trans ((hF369.1 9 rfl).trans (e_ln)))) (le := le) (e_le := show A543 4 (ln).toNat = le from (congrFun ((hF548.2 4 rfl).trans (hF369.2 4 rfl)) _).trans (e_le)) (at0 := at2_544) (e_at0 := show G542 10 = at2_544 from (e549)) (fk := fk2_546) (e_fk := show G542 16 = fk2_546 from (e551)) (op0 := op2_367) (e_op0 := show G542 15 = op2_367 from ((hF548.1 15 rfl).trans (e371))) (nd := nd) (e_nd := show G542 31 = nd from ((hF548.1 31 rfl).trans ((hF369.1 31 rfl).trans (e_nd)))) (tk0 := tk2_545) (e_tk0 := show G542 11 = tk2_545 from (e550)) (ec := ec) (e_ec := show ecn A543 (G542 31) = ec from ec557) (i_SV := (SV_ext (((hF548.1 29 rfl).trans (hF369.1 29 rfl))) (((hF548.2 14 rfl).trans (hF369.2 14 rfl))) i_SV))   (p_0 := by omega) (p_1 := by omega) (p_2 := by omega) (p_3 := by omega) (p_4 := by omega) (p_5 := by omega)) (fun o V' hq => ?_)
                        obtain ⟨G566, A567, r568, at2_569, fk2_570, op2_571, nd2_572, tk2_573, ec2_574, rfl, rfl, hW575, hF576, hQ577, b578, e579, e580, e581, e582, e583, e584, p585, p586, p587, p588, p589, p590, q591⟩ := hq
                        have hF592 := Fr_tr hF555 hF576 (Fr_sub (by decide)) (Fr_sub (by decide))
                        have hP593 := Pf_tr hP556 hQ577 (by omega)
                        have bat2_569 : (0 : Int) ≤ at2_569 ∧ at2_569 ≤ 3002 := e579 ▸ hW575.1 10
                        have bfk2_570 : (0 : Int) ≤ fk2_570 ∧ fk2_570 ≤ 6 := e580 ▸ hW575.1 16
                        have bop2_571 : (-2147483648 : Int) ≤ op2_571 ∧ op2_571 ≤ 2147483647 := e581 ▸ hW575.1 15
                        have bnd2_572 : (0 : Int) ≤ nd2_572 ∧ nd2_572 ≤ 6999 := e582 ▸ hW575.1 31
                        have ztk2_573 := tz_b tk2_573
                        have btk2_573 : (0 : Int) ≤ tk2_573 ∧ tk2_573 ≤ 5 := e583 ▸ hW575.1 11
                        refine .inr ⟨_, rfl, ?_⟩
                        rcases q591 with ⟨a594, a595, a596, a597, a598, a599⟩ | ⟨a600, a601, a602⟩ | ⟨a603, a604, a605, a606, a607, a608⟩
                        · have _q : True := trivial
                          refine jx_ld (pc' := 102) (l' := jSto1 [(0, .ref 66)] 1 (.int (i32 (r568)))) (st' := []) rfl rfl ?_
                          obtain ⟨L609, eL609⟩ : ∃ q, q = jSto1 [(0, .ref 66)] 1 (.int (i32 (r568))) := ⟨_, rfl⟩
                          rw [← eL609]
                          have gL609_0 : jGet L609 0 = some (.ref 66) := eL609 ▸ jg_ne (by decide) (rfl : jGet [(0, .ref 66)] 0 = some (.ref 66)) rfl
                          have gL609_1 : jGet L609 1 = some (.int (i32 (r568))) := eL609 ▸ jg_eq
                          refine jx_ld (pc' := 103) (l' := L609) (st' := [.ref 66]) rfl (jl_aloadn gL609_0) ?_
                          refine jx_ld (pc' := 104) (l' := L609) (st' := [.ref 66, .ref 66]) rfl (jl_aloadn gL609_0) ?_
                          refine jx_ar (pc' := 106) (st' := [.int (i32 (41)), .ref 66, .ref 66]) rfl rfl rfl rfl ?_
                          have b610 : (-2147483648 : Int) ≤ G566 13 ∧ G566 13 ≤ 2147483647 := hW575.1 13
                          refine jx_vr (pc' := 109) (as := [.int (i32 (41))]) (st := [.ref 66]) rfl rfl rfl rfl ⟨rfl, rfl, Nat.le_of_ble_eq_true rfl⟩ rfl rfl (c_is (dd := d) (hd := by omega) (hW := hW575) (k := 41) (tk := tk2_573) (e_tk := show G566 11 = tk2_573 from (e583)) (tn := G566 13) (e_tn := show G566 13 = G566 13 from rfl)  (h_k := ⟨(by decide), (by decide)⟩)  ) (fun o V' hq => ?_)
                          obtain ⟨r611, rfl, rfl, b612, q613⟩ := hq
                          refine .inr ⟨_, rfl, ?_⟩
                          rcases q613 with ⟨rfl, a614, a615, a616⟩ | rfl
                          · have _q : True := trivial
                            refine jx_vr (pc' := 112) (as := [.int (i32 (1))]) (st := []) rfl rfl rfl rfl ⟨rfl, rfl, Nat.le_of_ble_eq_true rfl⟩ rfl rfl (c_need (dd := d) (hd := by omega) (hW := hW575) (g := 1) (ln := ln) (e_ln := show G566 9 = ln from ((hF576.1 9 rfl).trans ((hF548.1 9 rfl).trans ((hF369.1 9 rfl).trans (e_ln))))) (le := le) (e_le := show A567 4 (ln).toNat = le from (congrFun ((hF576.2 4 rfl).trans ((hF548.2 4 rfl).trans (hF369.2 4 rfl))) _).trans (e_le)) (at0 := at2_569) (e_at0 := show G566 10 = at2_569 from (e579)) (fk := fk2_570) (e_fk := show G566 16 = fk2_570 from (e580)) (tk0 := tk2_573) (e_tk0 := show G566 11 = tk2_573 from (e583))  (h_g := ⟨(by decide), (by decide)⟩)  (p_0 := by omega)) (fun o V' hq => ?_)
                            obtain ⟨G617, A618, at2_619, tk2_620, fk2_621, rfl, rfl, hW622, hF623, e624, e625, e626, p627, p628, q629⟩ := hq
                            have hF630 := Fr_tr hF592 hF623 (Fr_sub (by decide)) (Fr_sub (by decide))
                            have hP631 := Pf_f hP593 hF623 (by decide)
                            have ec632 : ecn A618 (G617 31) = ec2_574 := (ecn_f (hF623.2 15 rfl) (hF623.1 31 rfl)).trans e584
                            have bat2_619 : (0 : Int) ≤ at2_619 ∧ at2_619 ≤ 3002 := e624 ▸ hW622.1 10
                            have ztk2_620 := tz_b tk2_620
                            have btk2_620 : (0 : Int) ≤ tk2_620 ∧ tk2_620 ≤ 5 := e625 ▸ hW622.1 11
                            have bfk2_621 : (0 : Int) ≤ fk2_621 ∧ fk2_621 ≤ 6 := e626 ▸ hW622.1 16
                            refine .inl ⟨rfl, ?_⟩
                            rcases q629 with ⟨a633, a634, a635, a636⟩ | ⟨a637, a638, a639, a640⟩
                            · have _q : True := trivial
                              refine jx_ld (pc' := 113) (l' := L609) (st' := [.ref 66]) rfl (jl_aloadn gL609_0) ?_
                              refine jx_ar (pc' := 114) (st' := [.ref 66, .ref 66]) rfl rfl rfl rfl ?_
                              refine jr_get (pc' := 117) (i := 15) (v := .int (i32 (op2_571))) rfl rfl (by decide) (rFv_eq (by decide) (show G617 15 = op2_571 from ((hF623.1 15 rfl).trans (e581)))) rfl ?_
                              refine jx_ar (pc' := 118) (st' := [.int (i32 (1)), .int (i32 (op2_571)), .ref 66]) rfl rfl rfl rfl ?_
                              refine jx_sub (pc' := 119) rfl rfl ?_
                              refine jr_put (pc' := 122) (i := 15) (z := (op2_571 - 1)) rfl rfl (by decide) rfl rfl rfl rfl rfl rfl ?_
                              have hW641 : Wk (uG G617 15 ((op2_571 - 1))) A618 := Wk_g hW622 (show (-2147483648 : Int) ≤ (op2_571 - 1) by omega) (show (op2_571 - 1) ≤ (2147483647 : Int) by omega)
                              have hF642 := Fr_g (z := (op2_571 - 1)) (i := 15) hF630 (by decide)
                              have ec643 : ecn A618 ((uG G617 15 ((op2_571 - 1))) 31) = ec2_574 := ec632
                              refine jx_ld (pc' := 123) (l' := L609) (st' := [.ref 66]) rfl (jl_aloadn gL609_0) ?_
                              refine jx_ar (pc' := 125) (st' := [.int (i32 (7)), .ref 66]) rfl rfl rfl rfl ?_
                              refine jx_ld (pc' := 126) (l' := L609) (st' := [.int (i32 (r568)), .int (i32 (7)), .ref 66]) rfl (jl_iloadn gL609_1) ?_
                              refine jx_ar (pc' := 127) (st' := [.int (i32 (0)), .int (i32 (r568)), .int (i32 (7)), .ref 66]) rfl rfl rfl rfl ?_
                              refine jx_ar (pc' := 128) (st' := [.int (i32 (0)), .int (i32 (0)), .int (i32 (r568)), .int (i32 (7)), .ref 66]) rfl rfl rfl rfl ?_
                              refine jx_ar (pc' := 129) (st' := [.int (i32 (0)), .int (i32 (0)), .int (i32 (0)), .int (i32 (r568)), .int (i32 (7)), .ref 66]) rfl rfl rfl rfl ?_
                              refine jx_vr (pc' := 132) (as := [.int (i32 (7)), .int (i32 (r568)), .int (i32 (0)), .int (i32 (0)), .int (i32 (0))]) (st := []) rfl rfl rfl rfl ⟨rfl, rfl, Nat.le_of_ble_eq_true rfl⟩ rfl rfl (c_node_o (dd := d) (hd := by omega) (hW := hW641) (kind := 7) (a := r568) (b := 0) (c := 0) (e := 0) (nd := nd2_572) (e_nd := show (uG G617 15 ((op2_571 - 1))) 31 = nd2_572 from ((hF623.1 31 rfl).trans (e582))) (ec := ec2_574) (e_ec := show ecn A618 ((uG G617 15 ((op2_571 - 1))) 31) = ec2_574 from ec643)  (h_kind := ⟨(by decide), (by decide)⟩) (h_a := ⟨(Int.le_trans (by decide : (-2147483648 : Int) ≤ -2147483648) b578.1), (Int.le_trans b578.2 (by decide : (2147483647 : Int) ≤ 2147483647))⟩) (h_b := ⟨(by decide), (by decide)⟩) (h_c := ⟨(by decide), (by decide)⟩) (h_e := ⟨(by decide), (by decide)⟩)  (p_0 := by omega) (p_1 := by omega) (p_2 := by omega)) (fun o V' hq => ?_)
                              obtain ⟨G644, A645, nd2_646, ec2_647, rfl, rfl, hW648, hF649, hQ650, e651, e652, p653, p654, p655, -⟩ := hq
                              have hF657 := Fr_tr hF642 hF649 (Fr_sub (by decide)) (Fr_sub (by decide))
                              have hP658 := Pf_tr hP631 hQ650 (by omega)
                              have bnd2_646 : (0 : Int) ≤ nd2_646 ∧ nd2_646 ≤ 6999 := e651 ▸ hW648.1 31
                              refine .inr ⟨_, rfl, ?_⟩
                              refine jx_rt (v := some (.int (i32 (nd2_572)))) rfl rfl rfl rfl rfl rfl ?_
                              have z659 := tz_f (tk2_620)
                              exact ⟨_, _, _, at2_619, fk2_621, (op2_571 - 1), nd2_646, tk2_620, ec2_647, rfl, rfl, hW648, hF657, hP658, by omega, ((hF649.1 10 rfl).trans (e624)), ((hF649.1 16 rfl).trans (e626)), (hF649.1 15 rfl), (e651), ((hF649.1 11 rfl).trans (e625)), e652, by omega, by omega, by omega, by omega, by omega, by omega, by first | exact Or.inr (Or.inl (⟨by omega, by omega, by omega⟩))⟩
                            · have _q : True := trivial
                              exfalso
                              omega
                          · have _q : True := trivial
                            refine jx_vr (pc' := 112) (as := [.int (i32 (0))]) (st := []) rfl rfl rfl rfl ⟨rfl, rfl, Nat.le_of_ble_eq_true rfl⟩ rfl rfl (c_need (dd := d) (hd := by omega) (hW := hW575) (g := 0) (ln := ln) (e_ln := show G566 9 = ln from ((hF576.1 9 rfl).trans ((hF548.1 9 rfl).trans ((hF369.1 9 rfl).trans (e_ln))))) (le := le) (e_le := show A567 4 (ln).toNat = le from (congrFun ((hF576.2 4 rfl).trans ((hF548.2 4 rfl).trans (hF369.2 4 rfl))) _).trans (e_le)) (at0 := at2_569) (e_at0 := show G566 10 = at2_569 from (e579)) (fk := fk2_570) (e_fk := show G566 16 = fk2_570 from (e580)) (tk0 := tk2_573) (e_tk0 := show G566 11 = tk2_573 from (e583))  (h_g := ⟨(by decide), (by decide)⟩)  (p_0 := by omega)) (fun o V' hq => ?_)
                            obtain ⟨G660, A661, at2_662, tk2_663, fk2_664, rfl, rfl, hW665, hF666, e667, e668, e669, p670, p671, q672⟩ := hq
                            have hF673 := Fr_tr hF592 hF666 (Fr_sub (by decide)) (Fr_sub (by decide))
                            have hP674 := Pf_f hP593 hF666 (by decide)
                            have ec675 : ecn A661 (G660 31) = ec2_574 := (ecn_f (hF666.2 15 rfl) (hF666.1 31 rfl)).trans e584
                            have bat2_662 : (0 : Int) ≤ at2_662 ∧ at2_662 ≤ 3002 := e667 ▸ hW665.1 10
                            have ztk2_663 := tz_b tk2_663
                            have btk2_663 : (0 : Int) ≤ tk2_663 ∧ tk2_663 ≤ 5 := e668 ▸ hW665.1 11
                            have bfk2_664 : (0 : Int) ≤ fk2_664 ∧ fk2_664 ≤ 6 := e669 ▸ hW665.1 16
                            refine .inl ⟨rfl, ?_⟩
                            rcases q672 with ⟨a676, a677, a678, a679⟩ | ⟨a680, a681, a682, a683⟩
                            · have _q : True := trivial
                              refine jx_ld (pc' := 113) (l' := L609) (st' := [.ref 66]) rfl (jl_aloadn gL609_0) ?_
                              refine jx_ar (pc' := 114) (st' := [.ref 66, .ref 66]) rfl rfl rfl rfl ?_
                              refine jr_get (pc' := 117) (i := 15) (v := .int (i32 (op2_571))) rfl rfl (by decide) (rFv_eq (by decide) (show G660 15 = op2_571 from ((hF666.1 15 rfl).trans (e581)))) rfl ?_
                              refine jx_ar (pc' := 118) (st' := [.int (i32 (1)), .int (i32 (op2_571)), .ref 66]) rfl rfl rfl rfl ?_
                              refine jx_sub (pc' := 119) rfl rfl ?_
                              refine jr_put (pc' := 122) (i := 15) (z := (op2_571 - 1)) rfl rfl (by decide) rfl rfl rfl rfl rfl rfl ?_
                              have hW684 : Wk (uG G660 15 ((op2_571 - 1))) A661 := Wk_g hW665 (show (-2147483648 : Int) ≤ (op2_571 - 1) by omega) (show (op2_571 - 1) ≤ (2147483647 : Int) by omega)
                              have hF685 := Fr_g (z := (op2_571 - 1)) (i := 15) hF673 (by decide)
                              have ec686 : ecn A661 ((uG G660 15 ((op2_571 - 1))) 31) = ec2_574 := ec675
                              refine jx_ld (pc' := 123) (l' := L609) (st' := [.ref 66]) rfl (jl_aloadn gL609_0) ?_
                              refine jx_ar (pc' := 125) (st' := [.int (i32 (7)), .ref 66]) rfl rfl rfl rfl ?_
                              refine jx_ld (pc' := 126) (l' := L609) (st' := [.int (i32 (r568)), .int (i32 (7)), .ref 66]) rfl (jl_iloadn gL609_1) ?_
                              refine jx_ar (pc' := 127) (st' := [.int (i32 (0)), .int (i32 (r568)), .int (i32 (7)), .ref 66]) rfl rfl rfl rfl ?_
                              refine jx_ar (pc' := 128) (st' := [.int (i32 (0)), .int (i32 (0)), .int (i32 (r568)), .int (i32 (7)), .ref 66]) rfl rfl rfl rfl ?_
                              refine jx_ar (pc' := 129) (st' := [.int (i32 (0)), .int (i32 (0)), .int (i32 (0)), .int (i32 (r568)), .int (i32 (7)), .ref 66]) rfl rfl rfl rfl ?_
                              refine jx_vr (pc' := 132) (as := [.int (i32 (7)), .int (i32 (r568)), .int (i32 (0)), .int (i32 (0)), .int (i32 (0))]) (st := []) rfl rfl rfl rfl ⟨rfl, rfl, Nat.le_of_ble_eq_true rfl⟩ rfl rfl (c_node_o (dd := d) (hd := by omega) (hW := hW684) (kind := 7) (a := r568) (b := 0) (c := 0) (e := 0) (nd := nd2_572) (e_nd := show (uG G660 15 ((op2_571 - 1))) 31 = nd2_572 from ((hF666.1 31 rfl).trans (e582))) (ec := ec2_574) (e_ec := show ecn A661 ((uG G660 15 ((op2_571 - 1))) 31) = ec2_574 from ec686)  (h_kind := ⟨(by decide), (by decide)⟩) (h_a := ⟨(Int.le_trans (by decide : (-2147483648 : Int) ≤ -2147483648) b578.1), (Int.le_trans b578.2 (by decide : (2147483647 : Int) ≤ 2147483647))⟩) (h_b := ⟨(by decide), (by decide)⟩) (h_c := ⟨(by decide), (by decide)⟩) (h_e := ⟨(by decide), (by decide)⟩)  (p_0 := by omega) (p_1 := by omega) (p_2 := by omega)) (fun o V' hq => ?_)
                              obtain ⟨G687, A688, nd2_689, ec2_690, rfl, rfl, hW691, hF692, hQ693, e694, e695, p696, p697, p698, -⟩ := hq
                              have hF700 := Fr_tr hF685 hF692 (Fr_sub (by decide)) (Fr_sub (by decide))
                              have hP701 := Pf_tr hP674 hQ693 (by omega)
                              have bnd2_689 : (0 : Int) ≤ nd2_689 ∧ nd2_689 ≤ 6999 := e694 ▸ hW691.1 31
                              refine .inr ⟨_, rfl, ?_⟩
                              refine jx_rt (v := some (.int (i32 (nd2_572)))) rfl rfl rfl rfl rfl rfl ?_
                              have z702 := tz_f (tk2_663)
                              exact ⟨_, _, _, at2_662, fk2_664, (op2_571 - 1), nd2_689, tk2_663, ec2_690, rfl, rfl, hW691, hF700, hP701, by omega, ((hF692.1 10 rfl).trans (e667)), ((hF692.1 16 rfl).trans (e669)), (hF692.1 15 rfl), (e694), ((hF692.1 11 rfl).trans (e668)), e695, by omega, by omega, by omega, by omega, by omega, by omega, by first | exact Or.inr (Or.inl (⟨by omega, by omega, by omega⟩))⟩
                            · have _q : True := trivial
                              exfalso
                              omega
                        · have _q : True := trivial
                          exfalso
                          omega
                        · have _q : True := trivial
                          exfalso
                          omega
                      · have _q : True := trivial
                        have pz703 : at0 + tz tk2_545 ≤ at2_544 := by omega
                        refine jx_ld (pc' := 98) (l' := [(0, .ref 66)]) (st' := [.ref 66]) rfl (jl_aloadn rfl) ?_
                        refine jx_vr (pc' := 101) (as := []) (st := []) rfl rfl rfl rfl ⟨rfl, rfl, Nat.le_of_ble_eq_true rfl⟩ rfl rfl (hE (dd := d) (hd := by omega) (hW := hW547)  (ln := ln) (e_ln := show G542 9 = ln from ((hF548.1 9 rfl).trans ((hF369.1 9 rfl).trans (e_ln)))) (le := le) (e_le := show A543 4 (ln).toNat = le from (congrFun ((hF548.2 4 rfl).trans (hF369.2 4 rfl)) _).trans (e_le)) (at0 := at2_544) (e_at0 := show G542 10 = at2_544 from (e549)) (fk := fk2_546) (e_fk := show G542 16 = fk2_546 from (e551)) (op0 := op2_367) (e_op0 := show G542 15 = op2_367 from ((hF548.1 15 rfl).trans (e371))) (nd := nd) (e_nd := show G542 31 = nd from ((hF548.1 31 rfl).trans ((hF369.1 31 rfl).trans (e_nd)))) (tk0 := tk2_545) (e_tk0 := show G542 11 = tk2_545 from (e550)) (ec := ec) (e_ec := show ecn A543 (G542 31) = ec from ec557) (i_SV := (SV_ext (((hF548.1 29 rfl).trans (hF369.1 29 rfl))) (((hF548.2 14 rfl).trans (hF369.2 14 rfl))) i_SV))   (p_0 := by omega) (p_1 := by omega) (p_2 := by omega) (p_3 := by omega) (p_4 := by omega) (p_5 := by omega)) (fun o V' hq => ?_)
                        obtain ⟨G704, A705, r706, at2_707, fk2_708, op2_709, nd2_710, tk2_711, ec2_712, rfl, rfl, hW713, hF714, hQ715, b716, e717, e718, e719, e720, e721, e722, p723, p724, p725, p726, p727, p728, q729⟩ := hq
                        have hF730 := Fr_tr hF555 hF714 (Fr_sub (by decide)) (Fr_sub (by decide))
                        have hP731 := Pf_tr hP556 hQ715 (by omega)
                        have bat2_707 : (0 : Int) ≤ at2_707 ∧ at2_707 ≤ 3002 := e717 ▸ hW713.1 10
                        have bfk2_708 : (0 : Int) ≤ fk2_708 ∧ fk2_708 ≤ 6 := e718 ▸ hW713.1 16
                        have bop2_709 : (-2147483648 : Int) ≤ op2_709 ∧ op2_709 ≤ 2147483647 := e719 ▸ hW713.1 15
                        have bnd2_710 : (0 : Int) ≤ nd2_710 ∧ nd2_710 ≤ 6999 := e720 ▸ hW713.1 31
                        have ztk2_711 := tz_b tk2_711
                        have btk2_711 : (0 : Int) ≤ tk2_711 ∧ tk2_711 ≤ 5 := e721 ▸ hW713.1 11
                        refine .inr ⟨_, rfl, ?_⟩
                        rcases q729 with ⟨a732, a733, a734, a735, a736, a737⟩ | ⟨a738, a739, a740⟩ | ⟨a741, a742, a743, a744, a745, a746⟩
                        · have _q : True := trivial
                          exfalso
                          omega
                        · have _q : True := trivial
                          refine jx_ld (pc' := 102) (l' := jSto1 [(0, .ref 66)] 1 (.int (i32 (r706)))) (st' := []) rfl rfl ?_
                          obtain ⟨L747, eL747⟩ : ∃ q, q = jSto1 [(0, .ref 66)] 1 (.int (i32 (r706))) := ⟨_, rfl⟩
                          rw [← eL747]
                          have gL747_0 : jGet L747 0 = some (.ref 66) := eL747 ▸ jg_ne (by decide) (rfl : jGet [(0, .ref 66)] 0 = some (.ref 66)) rfl
                          have gL747_1 : jGet L747 1 = some (.int (i32 (r706))) := eL747 ▸ jg_eq
                          refine jx_ld (pc' := 103) (l' := L747) (st' := [.ref 66]) rfl (jl_aloadn gL747_0) ?_
                          refine jx_ld (pc' := 104) (l' := L747) (st' := [.ref 66, .ref 66]) rfl (jl_aloadn gL747_0) ?_
                          refine jx_ar (pc' := 106) (st' := [.int (i32 (41)), .ref 66, .ref 66]) rfl rfl rfl rfl ?_
                          have b748 : (-2147483648 : Int) ≤ G704 13 ∧ G704 13 ≤ 2147483647 := hW713.1 13
                          refine jx_vr (pc' := 109) (as := [.int (i32 (41))]) (st := [.ref 66]) rfl rfl rfl rfl ⟨rfl, rfl, Nat.le_of_ble_eq_true rfl⟩ rfl rfl (c_is (dd := d) (hd := by omega) (hW := hW713) (k := 41) (tk := tk2_711) (e_tk := show G704 11 = tk2_711 from (e721)) (tn := G704 13) (e_tn := show G704 13 = G704 13 from rfl)  (h_k := ⟨(by decide), (by decide)⟩)  ) (fun o V' hq => ?_)
                          obtain ⟨r749, rfl, rfl, b750, q751⟩ := hq
                          refine .inr ⟨_, rfl, ?_⟩
                          rcases q751 with ⟨rfl, a752, a753, a754⟩ | rfl
                          · have _q : True := trivial
                            refine jx_vr (pc' := 112) (as := [.int (i32 (1))]) (st := []) rfl rfl rfl rfl ⟨rfl, rfl, Nat.le_of_ble_eq_true rfl⟩ rfl rfl (c_need (dd := d) (hd := by omega) (hW := hW713) (g := 1) (ln := ln) (e_ln := show G704 9 = ln from ((hF714.1 9 rfl).trans ((hF548.1 9 rfl).trans ((hF369.1 9 rfl).trans (e_ln))))) (le := le) (e_le := show A705 4 (ln).toNat = le from (congrFun ((hF714.2 4 rfl).trans ((hF548.2 4 rfl).trans (hF369.2 4 rfl))) _).trans (e_le)) (at0 := at2_707) (e_at0 := show G704 10 = at2_707 from (e717)) (fk := fk2_708) (e_fk := show G704 16 = fk2_708 from (e718)) (tk0 := tk2_711) (e_tk0 := show G704 11 = tk2_711 from (e721))  (h_g := ⟨(by decide), (by decide)⟩)  (p_0 := by omega)) (fun o V' hq => ?_)
                            obtain ⟨G755, A756, at2_757, tk2_758, fk2_759, rfl, rfl, hW760, hF761, e762, e763, e764, p765, p766, q767⟩ := hq
                            have hF768 := Fr_tr hF730 hF761 (Fr_sub (by decide)) (Fr_sub (by decide))
                            have hP769 := Pf_f hP731 hF761 (by decide)
                            have ec770 : ecn A756 (G755 31) = ec2_712 := (ecn_f (hF761.2 15 rfl) (hF761.1 31 rfl)).trans e722
                            have bat2_757 : (0 : Int) ≤ at2_757 ∧ at2_757 ≤ 3002 := e762 ▸ hW760.1 10
                            have ztk2_758 := tz_b tk2_758
                            have btk2_758 : (0 : Int) ≤ tk2_758 ∧ tk2_758 ≤ 5 := e763 ▸ hW760.1 11
                            have bfk2_759 : (0 : Int) ≤ fk2_759 ∧ fk2_759 ≤ 6 := e764 ▸ hW760.1 16
                            refine .inl ⟨rfl, ?_⟩
                            rcases q767 with ⟨a771, a772, a773, a774⟩ | ⟨a775, a776, a777, a778⟩
                            · have _q : True := trivial
                              refine jx_ld (pc' := 113) (l' := L747) (st' := [.ref 66]) rfl (jl_aloadn gL747_0) ?_
                              refine jx_ar (pc' := 114) (st' := [.ref 66, .ref 66]) rfl rfl rfl rfl ?_
                              refine jr_get (pc' := 117) (i := 15) (v := .int (i32 (op2_709))) rfl rfl (by decide) (rFv_eq (by decide) (show G755 15 = op2_709 from ((hF761.1 15 rfl).trans (e719)))) rfl ?_
                              refine jx_ar (pc' := 118) (st' := [.int (i32 (1)), .int (i32 (op2_709)), .ref 66]) rfl rfl rfl rfl ?_
                              refine jx_sub (pc' := 119) rfl rfl ?_
                              refine jr_put (pc' := 122) (i := 15) (z := (op2_709 - 1)) rfl rfl (by decide) rfl rfl rfl rfl rfl rfl ?_
                              have hW779 : Wk (uG G755 15 ((op2_709 - 1))) A756 := Wk_g hW760 (show (-2147483648 : Int) ≤ (op2_709 - 1) by omega) (show (op2_709 - 1) ≤ (2147483647 : Int) by omega)
                              have hF780 := Fr_g (z := (op2_709 - 1)) (i := 15) hF768 (by decide)
                              have ec781 : ecn A756 ((uG G755 15 ((op2_709 - 1))) 31) = ec2_712 := ec770
                              refine jx_ld (pc' := 123) (l' := L747) (st' := [.ref 66]) rfl (jl_aloadn gL747_0) ?_
                              refine jx_ar (pc' := 125) (st' := [.int (i32 (7)), .ref 66]) rfl rfl rfl rfl ?_
                              refine jx_ld (pc' := 126) (l' := L747) (st' := [.int (i32 (r706)), .int (i32 (7)), .ref 66]) rfl (jl_iloadn gL747_1) ?_
                              refine jx_ar (pc' := 127) (st' := [.int (i32 (0)), .int (i32 (r706)), .int (i32 (7)), .ref 66]) rfl rfl rfl rfl ?_
                              refine jx_ar (pc' := 128) (st' := [.int (i32 (0)), .int (i32 (0)), .int (i32 (r706)), .int (i32 (7)), .ref 66]) rfl rfl rfl rfl ?_
                              refine jx_ar (pc' := 129) (st' := [.int (i32 (0)), .int (i32 (0)), .int (i32 (0)), .int (i32 (r706)), .int (i32 (7)), .ref 66]) rfl rfl rfl rfl ?_
                              refine jx_vr (pc' := 132) (as := [.int (i32 (7)), .int (i32 (r706)), .int (i32 (0)), .int (i32 (0)), .int (i32 (0))]) (st := []) rfl rfl rfl rfl ⟨rfl, rfl, Nat.le_of_ble_eq_true rfl⟩ rfl rfl (c_node_o (dd := d) (hd := by omega) (hW := hW779) (kind := 7) (a := r706) (b := 0) (c := 0) (e := 0) (nd := nd2_710) (e_nd := show (uG G755 15 ((op2_709 - 1))) 31 = nd2_710 from ((hF761.1 31 rfl).trans (e720))) (ec := ec2_712) (e_ec := show ecn A756 ((uG G755 15 ((op2_709 - 1))) 31) = ec2_712 from ec781)  (h_kind := ⟨(by decide), (by decide)⟩) (h_a := ⟨(Int.le_trans (by decide : (-2147483648 : Int) ≤ -2147483648) b716.1), (Int.le_trans b716.2 (by decide : (2147483647 : Int) ≤ 2147483647))⟩) (h_b := ⟨(by decide), (by decide)⟩) (h_c := ⟨(by decide), (by decide)⟩) (h_e := ⟨(by decide), (by decide)⟩)  (p_0 := by omega) (p_1 := by omega) (p_2 := by omega)) (fun o V' hq => ?_)
                              obtain ⟨G782, A783, nd2_784, ec2_785, rfl, rfl, hW786, hF787, hQ788, e789, e790, p791, p792, p793, -⟩ := hq
                              have hF795 := Fr_tr hF780 hF787 (Fr_sub (by decide)) (Fr_sub (by decide))
                              have hP796 := Pf_tr hP769 hQ788 (by omega)
                              have bnd2_784 : (0 : Int) ≤ nd2_784 ∧ nd2_784 ≤ 6999 := e789 ▸ hW786.1 31
                              refine .inr ⟨_, rfl, ?_⟩
                              refine jx_rt (v := some (.int (i32 (nd2_710)))) rfl rfl rfl rfl rfl rfl ?_
                              have z797 := tz_f (tk2_758)
                              exact ⟨_, _, _, at2_757, fk2_759, (op2_709 - 1), nd2_784, tk2_758, ec2_785, rfl, rfl, hW786, hF795, hP796, by omega, ((hF787.1 10 rfl).trans (e762)), ((hF787.1 16 rfl).trans (e764)), (hF787.1 15 rfl), (e789), ((hF787.1 11 rfl).trans (e763)), e790, by omega, by omega, by omega, by omega, by omega, by omega, by first | exact Or.inr (Or.inl (⟨by omega, by omega, by omega⟩))⟩
                            · have _q : True := trivial
                              exfalso
                              omega
                          · have _q : True := trivial
                            refine jx_vr (pc' := 112) (as := [.int (i32 (0))]) (st := []) rfl rfl rfl rfl ⟨rfl, rfl, Nat.le_of_ble_eq_true rfl⟩ rfl rfl (c_need (dd := d) (hd := by omega) (hW := hW713) (g := 0) (ln := ln) (e_ln := show G704 9 = ln from ((hF714.1 9 rfl).trans ((hF548.1 9 rfl).trans ((hF369.1 9 rfl).trans (e_ln))))) (le := le) (e_le := show A705 4 (ln).toNat = le from (congrFun ((hF714.2 4 rfl).trans ((hF548.2 4 rfl).trans (hF369.2 4 rfl))) _).trans (e_le)) (at0 := at2_707) (e_at0 := show G704 10 = at2_707 from (e717)) (fk := fk2_708) (e_fk := show G704 16 = fk2_708 from (e718)) (tk0 := tk2_711) (e_tk0 := show G704 11 = tk2_711 from (e721))  (h_g := ⟨(by decide), (by decide)⟩)  (p_0 := by omega)) (fun o V' hq => ?_)
                            obtain ⟨G798, A799, at2_800, tk2_801, fk2_802, rfl, rfl, hW803, hF804, e805, e806, e807, p808, p809, q810⟩ := hq
                            have hF811 := Fr_tr hF730 hF804 (Fr_sub (by decide)) (Fr_sub (by decide))
                            have hP812 := Pf_f hP731 hF804 (by decide)
                            have ec813 : ecn A799 (G798 31) = ec2_712 := (ecn_f (hF804.2 15 rfl) (hF804.1 31 rfl)).trans e722
                            have bat2_800 : (0 : Int) ≤ at2_800 ∧ at2_800 ≤ 3002 := e805 ▸ hW803.1 10
                            have ztk2_801 := tz_b tk2_801
                            have btk2_801 : (0 : Int) ≤ tk2_801 ∧ tk2_801 ≤ 5 := e806 ▸ hW803.1 11
                            have bfk2_802 : (0 : Int) ≤ fk2_802 ∧ fk2_802 ≤ 6 := e807 ▸ hW803.1 16
                            refine .inl ⟨rfl, ?_⟩
                            rcases q810 with ⟨a814, a815, a816, a817⟩ | ⟨a818, a819, a820, a821⟩
                            · have _q : True := trivial
                              refine jx_ld (pc' := 113) (l' := L747) (st' := [.ref 66]) rfl (jl_aloadn gL747_0) ?_
                              refine jx_ar (pc' := 114) (st' := [.ref 66, .ref 66]) rfl rfl rfl rfl ?_
                              refine jr_get (pc' := 117) (i := 15) (v := .int (i32 (op2_709))) rfl rfl (by decide) (rFv_eq (by decide) (show G798 15 = op2_709 from ((hF804.1 15 rfl).trans (e719)))) rfl ?_
                              refine jx_ar (pc' := 118) (st' := [.int (i32 (1)), .int (i32 (op2_709)), .ref 66]) rfl rfl rfl rfl ?_
                              refine jx_sub (pc' := 119) rfl rfl ?_
                              refine jr_put (pc' := 122) (i := 15) (z := (op2_709 - 1)) rfl rfl (by decide) rfl rfl rfl rfl rfl rfl ?_
                              have hW822 : Wk (uG G798 15 ((op2_709 - 1))) A799 := Wk_g hW803 (show (-2147483648 : Int) ≤ (op2_709 - 1) by omega) (show (op2_709 - 1) ≤ (2147483647 : Int) by omega)
                              have hF823 := Fr_g (z := (op2_709 - 1)) (i := 15) hF811 (by decide)
                              have ec824 : ecn A799 ((uG G798 15 ((op2_709 - 1))) 31) = ec2_712 := ec813
                              refine jx_ld (pc' := 123) (l' := L747) (st' := [.ref 66]) rfl (jl_aloadn gL747_0) ?_
                              refine jx_ar (pc' := 125) (st' := [.int (i32 (7)), .ref 66]) rfl rfl rfl rfl ?_
                              refine jx_ld (pc' := 126) (l' := L747) (st' := [.int (i32 (r706)), .int (i32 (7)), .ref 66]) rfl (jl_iloadn gL747_1) ?_
                              refine jx_ar (pc' := 127) (st' := [.int (i32 (0)), .int (i32 (r706)), .int (i32 (7)), .ref 66]) rfl rfl rfl rfl ?_
                              refine jx_ar (pc' := 128) (st' := [.int (i32 (0)), .int (i32 (0)), .int (i32 (r706)), .int (i32 (7)), .ref 66]) rfl rfl rfl rfl ?_
                              refine jx_ar (pc' := 129) (st' := [.int (i32 (0)), .int (i32 (0)), .int (i32 (0)), .int (i32 (r706)), .int (i32 (7)), .ref 66]) rfl rfl rfl rfl ?_
                              refine jx_vr (pc' := 132) (as := [.int (i32 (7)), .int (i32 (r706)), .int (i32 (0)), .int (i32 (0)), .int (i32 (0))]) (st := []) rfl rfl rfl rfl ⟨rfl, rfl, Nat.le_of_ble_eq_true rfl⟩ rfl rfl (c_node_o (dd := d) (hd := by omega) (hW := hW822) (kind := 7) (a := r706) (b := 0) (c := 0) (e := 0) (nd := nd2_710) (e_nd := show (uG G798 15 ((op2_709 - 1))) 31 = nd2_710 from ((hF804.1 31 rfl).trans (e720))) (ec := ec2_712) (e_ec := show ecn A799 ((uG G798 15 ((op2_709 - 1))) 31) = ec2_712 from ec824)  (h_kind := ⟨(by decide), (by decide)⟩) (h_a := ⟨(Int.le_trans (by decide : (-2147483648 : Int) ≤ -2147483648) b716.1), (Int.le_trans b716.2 (by decide : (2147483647 : Int) ≤ 2147483647))⟩) (h_b := ⟨(by decide), (by decide)⟩) (h_c := ⟨(by decide), (by decide)⟩) (h_e := ⟨(by decide), (by decide)⟩)  (p_0 := by omega) (p_1 := by omega) (p_2 := by omega)) (fun o V' hq => ?_)
                              obtain ⟨G825, A826, nd2_827, ec2_828, rfl, rfl, hW829, hF830, hQ831, e832, e833, p834, p835, p836, -⟩ := hq
                              have hF838 := Fr_tr hF823 hF830 (Fr_sub (by decide)) (Fr_sub (by decide))
                              have hP839 := Pf_tr hP812 hQ831 (by omega)
                              have bnd2_827 : (0 : Int) ≤ nd2_827 ∧ nd2_827 ≤ 6999 := e832 ▸ hW829.1 31
                              refine .inr ⟨_, rfl, ?_⟩
                              refine jx_rt (v := some (.int (i32 (nd2_710)))) rfl rfl rfl rfl rfl rfl ?_
                              have z840 := tz_f (tk2_801)
                              exact ⟨_, _, _, at2_800, fk2_802, (op2_709 - 1), nd2_827, tk2_801, ec2_828, rfl, rfl, hW829, hF838, hP839, by omega, ((hF830.1 10 rfl).trans (e805)), ((hF830.1 16 rfl).trans (e807)), (hF830.1 15 rfl), (e832), ((hF830.1 11 rfl).trans (e806)), e833, by omega, by omega, by omega, by omega, by omega, by omega, by first | exact Or.inr (Or.inl (⟨by omega, by omega, by omega⟩))⟩
                            · have _q : True := trivial
                              exfalso
                              omega
                        · have _q : True := trivial
                          refine jx_ld (pc' := 102) (l' := jSto1 [(0, .ref 66)] 1 (.int (i32 (r706)))) (st' := []) rfl rfl ?_
                          obtain ⟨L841, eL841⟩ : ∃ q, q = jSto1 [(0, .ref 66)] 1 (.int (i32 (r706))) := ⟨_, rfl⟩
                          rw [← eL841]
                          have gL841_0 : jGet L841 0 = some (.ref 66) := eL841 ▸ jg_ne (by decide) (rfl : jGet [(0, .ref 66)] 0 = some (.ref 66)) rfl
                          have gL841_1 : jGet L841 1 = some (.int (i32 (r706))) := eL841 ▸ jg_eq
                          refine jx_ld (pc' := 103) (l' := L841) (st' := [.ref 66]) rfl (jl_aloadn gL841_0) ?_
                          refine jx_ld (pc' := 104) (l' := L841) (st' := [.ref 66, .ref 66]) rfl (jl_aloadn gL841_0) ?_
                          refine jx_ar (pc' := 106) (st' := [.int (i32 (41)), .ref 66, .ref 66]) rfl rfl rfl rfl ?_
                          have b842 : (-2147483648 : Int) ≤ G704 13 ∧ G704 13 ≤ 2147483647 := hW713.1 13
                          refine jx_vr (pc' := 109) (as := [.int (i32 (41))]) (st := [.ref 66]) rfl rfl rfl rfl ⟨rfl, rfl, Nat.le_of_ble_eq_true rfl⟩ rfl rfl (c_is (dd := d) (hd := by omega) (hW := hW713) (k := 41) (tk := tk2_711) (e_tk := show G704 11 = tk2_711 from (e721)) (tn := G704 13) (e_tn := show G704 13 = G704 13 from rfl)  (h_k := ⟨(by decide), (by decide)⟩)  ) (fun o V' hq => ?_)
                          obtain ⟨r843, rfl, rfl, b844, q845⟩ := hq
                          refine .inr ⟨_, rfl, ?_⟩
                          rcases q845 with ⟨rfl, a846, a847, a848⟩ | rfl
                          · have _q : True := trivial
                            refine jx_vr (pc' := 112) (as := [.int (i32 (1))]) (st := []) rfl rfl rfl rfl ⟨rfl, rfl, Nat.le_of_ble_eq_true rfl⟩ rfl rfl (c_need (dd := d) (hd := by omega) (hW := hW713) (g := 1) (ln := ln) (e_ln := show G704 9 = ln from ((hF714.1 9 rfl).trans ((hF548.1 9 rfl).trans ((hF369.1 9 rfl).trans (e_ln))))) (le := le) (e_le := show A705 4 (ln).toNat = le from (congrFun ((hF714.2 4 rfl).trans ((hF548.2 4 rfl).trans (hF369.2 4 rfl))) _).trans (e_le)) (at0 := at2_707) (e_at0 := show G704 10 = at2_707 from (e717)) (fk := fk2_708) (e_fk := show G704 16 = fk2_708 from (e718)) (tk0 := tk2_711) (e_tk0 := show G704 11 = tk2_711 from (e721))  (h_g := ⟨(by decide), (by decide)⟩)  (p_0 := by omega)) (fun o V' hq => ?_)
                            obtain ⟨G849, A850, at2_851, tk2_852, fk2_853, rfl, rfl, hW854, hF855, e856, e857, e858, p859, p860, q861⟩ := hq
                            have hF862 := Fr_tr hF730 hF855 (Fr_sub (by decide)) (Fr_sub (by decide))
                            have hP863 := Pf_f hP731 hF855 (by decide)
                            have sf864 : wE A850 Vs sb (2 * k + 2) (r706) (nd) (nd2_710) := wE_ag (by omega) (Sg_fr hF855 (by decide)) (Ag_fr hF855 (by decide)) a744
                            have ec865 : ecn A850 (G849 31) = ec2_712 := (ecn_f (hF855.2 15 rfl) (hF855.1 31 rfl)).trans e722
                            have bat2_851 : (0 : Int) ≤ at2_851 ∧ at2_851 ≤ 3002 := e856 ▸ hW854.1 10
                            have ztk2_852 := tz_b tk2_852
                            have btk2_852 : (0 : Int) ≤ tk2_852 ∧ tk2_852 ≤ 5 := e857 ▸ hW854.1 11
                            have bfk2_853 : (0 : Int) ≤ fk2_853 ∧ fk2_853 ≤ 6 := e858 ▸ hW854.1 16
                            refine .inl ⟨rfl, ?_⟩
                            rcases q861 with ⟨a866, a867, a868, a869⟩ | ⟨a870, a871, a872, a873⟩
                            · have _q : True := trivial
                              refine jx_ld (pc' := 113) (l' := L841) (st' := [.ref 66]) rfl (jl_aloadn gL841_0) ?_
                              refine jx_ar (pc' := 114) (st' := [.ref 66, .ref 66]) rfl rfl rfl rfl ?_
                              refine jr_get (pc' := 117) (i := 15) (v := .int (i32 (op2_709))) rfl rfl (by decide) (rFv_eq (by decide) (show G849 15 = op2_709 from ((hF855.1 15 rfl).trans (e719)))) rfl ?_
                              refine jx_ar (pc' := 118) (st' := [.int (i32 (1)), .int (i32 (op2_709)), .ref 66]) rfl rfl rfl rfl ?_
                              refine jx_sub (pc' := 119) rfl rfl ?_
                              refine jr_put (pc' := 122) (i := 15) (z := (op2_709 - 1)) rfl rfl (by decide) rfl rfl rfl rfl rfl rfl ?_
                              have hW874 : Wk (uG G849 15 ((op2_709 - 1))) A850 := Wk_g hW854 (show (-2147483648 : Int) ≤ (op2_709 - 1) by omega) (show (op2_709 - 1) ≤ (2147483647 : Int) by omega)
                              have hF875 := Fr_g (z := (op2_709 - 1)) (i := 15) hF862 (by decide)
                              have ec876 : ecn A850 ((uG G849 15 ((op2_709 - 1))) 31) = ec2_712 := ec865
                              refine jx_ld (pc' := 123) (l' := L841) (st' := [.ref 66]) rfl (jl_aloadn gL841_0) ?_
                              refine jx_ar (pc' := 125) (st' := [.int (i32 (7)), .ref 66]) rfl rfl rfl rfl ?_
                              refine jx_ld (pc' := 126) (l' := L841) (st' := [.int (i32 (r706)), .int (i32 (7)), .ref 66]) rfl (jl_iloadn gL841_1) ?_
                              refine jx_ar (pc' := 127) (st' := [.int (i32 (0)), .int (i32 (r706)), .int (i32 (7)), .ref 66]) rfl rfl rfl rfl ?_
                              refine jx_ar (pc' := 128) (st' := [.int (i32 (0)), .int (i32 (0)), .int (i32 (r706)), .int (i32 (7)), .ref 66]) rfl rfl rfl rfl ?_
                              refine jx_ar (pc' := 129) (st' := [.int (i32 (0)), .int (i32 (0)), .int (i32 (0)), .int (i32 (r706)), .int (i32 (7)), .ref 66]) rfl rfl rfl rfl ?_
                              refine jx_vr (pc' := 132) (as := [.int (i32 (7)), .int (i32 (r706)), .int (i32 (0)), .int (i32 (0)), .int (i32 (0))]) (st := []) rfl rfl rfl rfl ⟨rfl, rfl, Nat.le_of_ble_eq_true rfl⟩ rfl rfl (c_node_o (dd := d) (hd := by omega) (hW := hW874) (kind := 7) (a := r706) (b := 0) (c := 0) (e := 0) (nd := nd2_710) (e_nd := show (uG G849 15 ((op2_709 - 1))) 31 = nd2_710 from ((hF855.1 31 rfl).trans (e720))) (ec := ec2_712) (e_ec := show ecn A850 ((uG G849 15 ((op2_709 - 1))) 31) = ec2_712 from ec876)  (h_kind := ⟨(by decide), (by decide)⟩) (h_a := ⟨(Int.le_trans (by decide : (-2147483648 : Int) ≤ -2147483648) b716.1), (Int.le_trans b716.2 (by decide : (2147483647 : Int) ≤ 2147483647))⟩) (h_b := ⟨(by decide), (by decide)⟩) (h_c := ⟨(by decide), (by decide)⟩) (h_e := ⟨(by decide), (by decide)⟩)  (p_0 := by omega) (p_1 := by omega) (p_2 := by omega)) (fun o V' hq => ?_)
                              obtain ⟨G877, A878, nd2_879, ec2_880, rfl, rfl, hW881, hF882, hQ883, e884, e885, p886, p887, p888, -⟩ := hq
                              have hF890 := Fr_tr hF875 hF882 (Fr_sub (by decide)) (Fr_sub (by decide))
                              have hP891 := Pf_tr hP863 hQ883 (by omega)
                              have sf892 : wE A878 Vs sb (2 * k + 2) (r706) (nd) (nd2_710) := wE_ag (by omega) (Sg_fr hF882 (by decide)) (Ag_pf hQ883 (by omega)) sf864
                              have bnd2_879 : (0 : Int) ≤ nd2_879 ∧ nd2_879 ≤ 6999 := e884 ▸ hW881.1 31
                              refine .inr ⟨_, rfl, ?_⟩
                              refine jx_rt (v := some (.int (i32 (nd2_710)))) rfl rfl rfl rfl rfl rfl ?_
                              have z893 := tz_f (tk2_852)
                              exact ⟨_, _, _, at2_851, fk2_853, (op2_709 - 1), nd2_879, tk2_852, ec2_880, rfl, rfl, hW881, hF890, hP891, by omega, ((hF882.1 10 rfl).trans (e856)), ((hF882.1 16 rfl).trans (e858)), (hF882.1 15 rfl), (e884), ((hF882.1 11 rfl).trans (e857)), e885, by omega, by omega, by omega, by omega, by omega, by omega, by first | exact Or.inr (Or.inl (⟨by omega, by omega, by omega⟩))⟩
                            · have _q : True := trivial
                              have pz894 : at2_707 + tz tk2_852 ≤ at2_851 := by omega
                              refine jx_ld (pc' := 113) (l' := L841) (st' := [.ref 66]) rfl (jl_aloadn gL841_0) ?_
                              refine jx_ar (pc' := 114) (st' := [.ref 66, .ref 66]) rfl rfl rfl rfl ?_
                              refine jr_get (pc' := 117) (i := 15) (v := .int (i32 (op2_709))) rfl rfl (by decide) (rFv_eq (by decide) (show G849 15 = op2_709 from ((hF855.1 15 rfl).trans (e719)))) rfl ?_
                              refine jx_ar (pc' := 118) (st' := [.int (i32 (1)), .int (i32 (op2_709)), .ref 66]) rfl rfl rfl rfl ?_
                              refine jx_sub (pc' := 119) rfl rfl ?_
                              refine jr_put (pc' := 122) (i := 15) (z := (op2_709 - 1)) rfl rfl (by decide) rfl rfl rfl rfl rfl rfl ?_
                              have hW895 : Wk (uG G849 15 ((op2_709 - 1))) A850 := Wk_g hW854 (show (-2147483648 : Int) ≤ (op2_709 - 1) by omega) (show (op2_709 - 1) ≤ (2147483647 : Int) by omega)
                              have hF896 := Fr_g (z := (op2_709 - 1)) (i := 15) hF862 (by decide)
                              have ec897 : ecn A850 ((uG G849 15 ((op2_709 - 1))) 31) = ec2_712 := ec865
                              refine jx_ld (pc' := 123) (l' := L841) (st' := [.ref 66]) rfl (jl_aloadn gL841_0) ?_
                              refine jx_ar (pc' := 125) (st' := [.int (i32 (7)), .ref 66]) rfl rfl rfl rfl ?_
                              refine jx_ld (pc' := 126) (l' := L841) (st' := [.int (i32 (r706)), .int (i32 (7)), .ref 66]) rfl (jl_iloadn gL841_1) ?_
                              refine jx_ar (pc' := 127) (st' := [.int (i32 (0)), .int (i32 (r706)), .int (i32 (7)), .ref 66]) rfl rfl rfl rfl ?_
                              refine jx_ar (pc' := 128) (st' := [.int (i32 (0)), .int (i32 (0)), .int (i32 (r706)), .int (i32 (7)), .ref 66]) rfl rfl rfl rfl ?_
                              refine jx_ar (pc' := 129) (st' := [.int (i32 (0)), .int (i32 (0)), .int (i32 (0)), .int (i32 (r706)), .int (i32 (7)), .ref 66]) rfl rfl rfl rfl ?_
                              refine jx_vr (pc' := 132) (as := [.int (i32 (7)), .int (i32 (r706)), .int (i32 (0)), .int (i32 (0)), .int (i32 (0))]) (st := []) rfl rfl rfl rfl ⟨rfl, rfl, Nat.le_of_ble_eq_true rfl⟩ rfl rfl (c_node_o (dd := d) (hd := by omega) (hW := hW895) (kind := 7) (a := r706) (b := 0) (c := 0) (e := 0) (nd := nd2_710) (e_nd := show (uG G849 15 ((op2_709 - 1))) 31 = nd2_710 from ((hF855.1 31 rfl).trans (e720))) (ec := ec2_712) (e_ec := show ecn A850 ((uG G849 15 ((op2_709 - 1))) 31) = ec2_712 from ec897)  (h_kind := ⟨(by decide), (by decide)⟩) (h_a := ⟨(Int.le_trans (by decide : (-2147483648 : Int) ≤ -2147483648) b716.1), (Int.le_trans b716.2 (by decide : (2147483647 : Int) ≤ 2147483647))⟩) (h_b := ⟨(by decide), (by decide)⟩) (h_c := ⟨(by decide), (by decide)⟩) (h_e := ⟨(by decide), (by decide)⟩)  (p_0 := by omega) (p_1 := by omega) (p_2 := by omega)) (fun o V' hq => ?_)
                              obtain ⟨G898, A899, nd2_900, ec2_901, rfl, rfl, hW902, hF903, hQ904, e905, e906, p907, p908, p909, -⟩ := hq
                              have hF911 := Fr_tr hF896 hF903 (Fr_sub (by decide)) (Fr_sub (by decide))
                              have hP912 := Pf_tr hP863 hQ904 (by omega)
                              have sf913 : wE A899 Vs sb (2 * k + 2) (r706) (nd) (nd2_710) := wE_ag (by omega) (Sg_fr hF903 (by decide)) (Ag_pf hQ904 (by omega)) sf864
                              have bnd2_900 : (0 : Int) ≤ nd2_900 ∧ nd2_900 ≤ 6999 := e905 ▸ hW902.1 31
                              refine .inr ⟨_, rfl, ?_⟩
                              refine jx_rt (v := some (.int (i32 (nd2_710)))) rfl rfl rfl rfl rfl rfl ?_
                              have z914 := tz_f (tk2_852)
                              exact ⟨_, _, _, at2_851, fk2_853, (op2_709 - 1), nd2_900, tk2_852, ec2_901, rfl, rfl, hW902, hF911, hP912, by omega, ((hF903.1 10 rfl).trans (e856)), ((hF903.1 16 rfl).trans (e858)), (hF903.1 15 rfl), (e905), ((hF903.1 11 rfl).trans (e857)), e906, by omega, by omega, by omega, by omega, by omega, by omega, by first | exact Or.inr (Or.inr ((⟨by omega, by omega, by omega, (wE_one p909 (by omega) (by omega) (by omega) (wE_mono (by omega) (by omega) (by omega) sf913)), by omega, by omega⟩)))⟩
                          · have _q : True := trivial
                            refine jx_vr (pc' := 112) (as := [.int (i32 (0))]) (st := []) rfl rfl rfl rfl ⟨rfl, rfl, Nat.le_of_ble_eq_true rfl⟩ rfl rfl (c_need (dd := d) (hd := by omega) (hW := hW713) (g := 0) (ln := ln) (e_ln := show G704 9 = ln from ((hF714.1 9 rfl).trans ((hF548.1 9 rfl).trans ((hF369.1 9 rfl).trans (e_ln))))) (le := le) (e_le := show A705 4 (ln).toNat = le from (congrFun ((hF714.2 4 rfl).trans ((hF548.2 4 rfl).trans (hF369.2 4 rfl))) _).trans (e_le)) (at0 := at2_707) (e_at0 := show G704 10 = at2_707 from (e717)) (fk := fk2_708) (e_fk := show G704 16 = fk2_708 from (e718)) (tk0 := tk2_711) (e_tk0 := show G704 11 = tk2_711 from (e721))  (h_g := ⟨(by decide), (by decide)⟩)  (p_0 := by omega)) (fun o V' hq => ?_)
                            obtain ⟨G915, A916, at2_917, tk2_918, fk2_919, rfl, rfl, hW920, hF921, e922, e923, e924, p925, p926, q927⟩ := hq
                            have hF928 := Fr_tr hF730 hF921 (Fr_sub (by decide)) (Fr_sub (by decide))
                            have hP929 := Pf_f hP731 hF921 (by decide)
                            have sf930 : wE A916 Vs sb (2 * k + 2) (r706) (nd) (nd2_710) := wE_ag (by omega) (Sg_fr hF921 (by decide)) (Ag_fr hF921 (by decide)) a744
                            have ec931 : ecn A916 (G915 31) = ec2_712 := (ecn_f (hF921.2 15 rfl) (hF921.1 31 rfl)).trans e722
                            have bat2_917 : (0 : Int) ≤ at2_917 ∧ at2_917 ≤ 3002 := e922 ▸ hW920.1 10
                            have ztk2_918 := tz_b tk2_918
                            have btk2_918 : (0 : Int) ≤ tk2_918 ∧ tk2_918 ≤ 5 := e923 ▸ hW920.1 11
                            have bfk2_919 : (0 : Int) ≤ fk2_919 ∧ fk2_919 ≤ 6 := e924 ▸ hW920.1 16
                            refine .inl ⟨rfl, ?_⟩
                            rcases q927 with ⟨a932, a933, a934, a935⟩ | ⟨a936, a937, a938, a939⟩
                            · have _q : True := trivial
                              refine jx_ld (pc' := 113) (l' := L841) (st' := [.ref 66]) rfl (jl_aloadn gL841_0) ?_
                              refine jx_ar (pc' := 114) (st' := [.ref 66, .ref 66]) rfl rfl rfl rfl ?_
                              refine jr_get (pc' := 117) (i := 15) (v := .int (i32 (op2_709))) rfl rfl (by decide) (rFv_eq (by decide) (show G915 15 = op2_709 from ((hF921.1 15 rfl).trans (e719)))) rfl ?_
                              refine jx_ar (pc' := 118) (st' := [.int (i32 (1)), .int (i32 (op2_709)), .ref 66]) rfl rfl rfl rfl ?_
                              refine jx_sub (pc' := 119) rfl rfl ?_
                              refine jr_put (pc' := 122) (i := 15) (z := (op2_709 - 1)) rfl rfl (by decide) rfl rfl rfl rfl rfl rfl ?_
                              have hW940 : Wk (uG G915 15 ((op2_709 - 1))) A916 := Wk_g hW920 (show (-2147483648 : Int) ≤ (op2_709 - 1) by omega) (show (op2_709 - 1) ≤ (2147483647 : Int) by omega)
                              have hF941 := Fr_g (z := (op2_709 - 1)) (i := 15) hF928 (by decide)
                              have ec942 : ecn A916 ((uG G915 15 ((op2_709 - 1))) 31) = ec2_712 := ec931
                              refine jx_ld (pc' := 123) (l' := L841) (st' := [.ref 66]) rfl (jl_aloadn gL841_0) ?_
                              refine jx_ar (pc' := 125) (st' := [.int (i32 (7)), .ref 66]) rfl rfl rfl rfl ?_
                              refine jx_ld (pc' := 126) (l' := L841) (st' := [.int (i32 (r706)), .int (i32 (7)), .ref 66]) rfl (jl_iloadn gL841_1) ?_
                              refine jx_ar (pc' := 127) (st' := [.int (i32 (0)), .int (i32 (r706)), .int (i32 (7)), .ref 66]) rfl rfl rfl rfl ?_
                              refine jx_ar (pc' := 128) (st' := [.int (i32 (0)), .int (i32 (0)), .int (i32 (r706)), .int (i32 (7)), .ref 66]) rfl rfl rfl rfl ?_
                              refine jx_ar (pc' := 129) (st' := [.int (i32 (0)), .int (i32 (0)), .int (i32 (0)), .int (i32 (r706)), .int (i32 (7)), .ref 66]) rfl rfl rfl rfl ?_
                              refine jx_vr (pc' := 132) (as := [.int (i32 (7)), .int (i32 (r706)), .int (i32 (0)), .int (i32 (0)), .int (i32 (0))]) (st := []) rfl rfl rfl rfl ⟨rfl, rfl, Nat.le_of_ble_eq_true rfl⟩ rfl rfl (c_node_o (dd := d) (hd := by omega) (hW := hW940) (kind := 7) (a := r706) (b := 0) (c := 0) (e := 0) (nd := nd2_710) (e_nd := show (uG G915 15 ((op2_709 - 1))) 31 = nd2_710 from ((hF921.1 31 rfl).trans (e720))) (ec := ec2_712) (e_ec := show ecn A916 ((uG G915 15 ((op2_709 - 1))) 31) = ec2_712 from ec942)  (h_kind := ⟨(by decide), (by decide)⟩) (h_a := ⟨(Int.le_trans (by decide : (-2147483648 : Int) ≤ -2147483648) b716.1), (Int.le_trans b716.2 (by decide : (2147483647 : Int) ≤ 2147483647))⟩) (h_b := ⟨(by decide), (by decide)⟩) (h_c := ⟨(by decide), (by decide)⟩) (h_e := ⟨(by decide), (by decide)⟩)  (p_0 := by omega) (p_1 := by omega) (p_2 := by omega)) (fun o V' hq => ?_)
                              obtain ⟨G943, A944, nd2_945, ec2_946, rfl, rfl, hW947, hF948, hQ949, e950, e951, p952, p953, p954, -⟩ := hq
                              have hF956 := Fr_tr hF941 hF948 (Fr_sub (by decide)) (Fr_sub (by decide))
                              have hP957 := Pf_tr hP929 hQ949 (by omega)
                              have sf958 : wE A944 Vs sb (2 * k + 2) (r706) (nd) (nd2_710) := wE_ag (by omega) (Sg_fr hF948 (by decide)) (Ag_pf hQ949 (by omega)) sf930
                              have bnd2_945 : (0 : Int) ≤ nd2_945 ∧ nd2_945 ≤ 6999 := e950 ▸ hW947.1 31
                              refine .inr ⟨_, rfl, ?_⟩
                              refine jx_rt (v := some (.int (i32 (nd2_710)))) rfl rfl rfl rfl rfl rfl ?_
                              have z959 := tz_f (tk2_918)
                              exact ⟨_, _, _, at2_917, fk2_919, (op2_709 - 1), nd2_945, tk2_918, ec2_946, rfl, rfl, hW947, hF956, hP957, by omega, ((hF948.1 10 rfl).trans (e922)), ((hF948.1 16 rfl).trans (e924)), (hF948.1 15 rfl), (e950), ((hF948.1 11 rfl).trans (e923)), e951, by omega, by omega, by omega, by omega, by omega, by omega, by first | exact Or.inr (Or.inl (⟨by omega, by omega, by omega⟩))⟩
                            · have _q : True := trivial
                              exfalso
                              omega
                · have _q : True := trivial
                  refine jx_if_eq (pc' := 88) (tg := 133) rfl rfl rfl (by decide) (by decide) (fun h960 => ?_) (fun h960 => ?_)
                  · have _q := h960
                    refine jx_ld (pc' := 134) (l' := [(0, .ref 66)]) (st' := [.ref 66]) rfl (jl_aloadn rfl) ?_
                    have z961 := tz_f (tk0)
                    refine jr_get (pc' := 137) (i := 11) (v := .int (i32 (tk0))) rfl rfl (by decide) (rFv_eq (by decide) (show G 11 = tk0 from (e_tk0))) rfl ?_
                    refine jx_ar (pc' := 138) (st' := [.int (i32 (1)), .int (i32 (tk0))]) rfl rfl rfl rfl ?_
                    refine jx_icmp_eq (pc' := 141) (tg := 152) rfl rfl rfl (Int.le_trans (by decide : (-2147483648 : Int) ≤ 0) b_tk0.1) (Int.le_trans b_tk0.2 (by decide : (5 : Int) ≤ 2147483647)) (by decide) (by decide) (fun h962 => ?_) (fun h962 => ?_)
                    · have _q := h962
                      refine jx_ld (pc' := 153) (l' := [(0, .ref 66)]) (st' := [.ref 66]) rfl (jl_aloadn rfl) ?_
                      have b963 : (-3000 : Int) ≤ G 12 ∧ G 12 ≤ 3002 := hW.1 12
                      refine jr_get (pc' := 156) (i := 12) (v := .int (i32 (G 12))) rfl rfl (by decide) rfl rfl ?_
                      refine jx_ld (pc' := 157) (l' := jSto1 [(0, .ref 66)] 1 (.int (i32 (G 12)))) (st' := []) rfl rfl ?_
                      obtain ⟨L964, eL964⟩ : ∃ q, q = jSto1 [(0, .ref 66)] 1 (.int (i32 (G 12))) := ⟨_, rfl⟩
                      rw [← eL964]
                      have gL964_0 : jGet L964 0 = some (.ref 66) := eL964 ▸ jg_ne (by decide) (rfl : jGet [(0, .ref 66)] 0 = some (.ref 66)) rfl
                      have gL964_1 : jGet L964 1 = some (.int (i32 (G 12))) := eL964 ▸ jg_eq
                      refine jx_ld (pc' := 158) (l' := L964) (st' := [.ref 66]) rfl (jl_aloadn gL964_0) ?_
                      refine jx_vr (pc' := 161) (as := []) (st := []) rfl rfl rfl rfl ⟨rfl, rfl, Nat.le_of_ble_eq_true rfl⟩ rfl rfl (c_lookUp (dd := d) (hd := by omega) (hW := hW)  (fk := fk) (e_fk := show G 16 = fk from (e_fk)) (i_SV := (SV_ext (rfl) (rfl) i_SV))   ) (fun o V' hq => ?_)
                      obtain ⟨G965, A966, r967, fk2_968, rfl, rfl, hW969, hF970, b971, e972, q973⟩ := hq
                      have hF974 := Fr_tr hF0 hF970 (Fr_sub (by decide)) (Fr_sub (by decide))
                      have hP975 := Pf_f hP0 hF970 (by decide)
                      have ec976 : ecn A966 (G965 31) = ec := (ecn_f (hF970.2 15 rfl) (hF970.1 31 rfl)).trans e_ec
                      have bfk2_968 : (0 : Int) ≤ fk2_968 ∧ fk2_968 ≤ 6 := e972 ▸ hW969.1 16
                      refine .inr ⟨_, rfl, ?_⟩
                      rcases q973 with ⟨a977, a978⟩ | ⟨a979, a980, a981, a982⟩
                      · have _q : True := trivial
                        refine jx_ld (pc' := 162) (l' := jSto1 L964 2 (.int (i32 (r967)))) (st' := []) rfl rfl ?_
                        obtain ⟨L983, eL983⟩ : ∃ q, q = jSto1 L964 2 (.int (i32 (r967))) := ⟨_, rfl⟩
                        rw [← eL983]
                        have gL983_0 : jGet L983 0 = some (.ref 66) := eL983 ▸ jg_ne (by decide) gL964_0 rfl
                        have gL983_1 : jGet L983 1 = some (.int (i32 (G 12))) := eL983 ▸ jg_ne (by decide) gL964_1 rfl
                        have gL983_2 : jGet L983 2 = some (.int (i32 (r967))) := eL983 ▸ jg_eq
                        refine jx_ld (pc' := 163) (l' := L983) (st' := [.ref 66]) rfl (jl_aloadn gL983_0) ?_
                        refine jx_vr (pc' := 166) (as := []) (st := []) rfl rfl rfl rfl ⟨rfl, rfl, Nat.le_of_ble_eq_true rfl⟩ rfl rfl (c_bad (dd := d) (hd := by omega) (hW := hW969)  (fk := fk2_968) (e_fk := show G965 16 = fk2_968 from (e972))    ) (fun o V' hq => ?_)
                        obtain ⟨r984, rfl, rfl, b985, q986⟩ := hq
                        refine .inr ⟨_, rfl, ?_⟩
                        rcases q986 with ⟨rfl, a987⟩ | ⟨rfl, a988⟩
                        · have _q : True := trivial
                          refine jx_if_eq (pc' := 169) (tg := 171) rfl rfl rfl (by decide) (by decide) (fun h989 => ?_) (fun h989 => ?_)
                          · have _q := h989
                            exact absurd h989 (by omega)
                          · have _q := h989
                            refine jx_ar (pc' := 170) (st' := [.int (i32 (0))]) rfl rfl rfl rfl ?_
                            refine jx_rt (v := some (.int (i32 (0)))) rfl rfl rfl rfl rfl rfl ?_
                            have z990 := tz_f (tk0)
                            exact ⟨_, _, _, at0, fk2_968, op0, nd, tk0, ec, rfl, rfl, hW969, hF974, hP975, by omega, ((hF970.1 10 rfl).trans (e_at0)), (e972), ((hF970.1 15 rfl).trans (e_op0)), ((hF970.1 31 rfl).trans (e_nd)), ((hF970.1 11 rfl).trans (e_tk0)), ec976, by omega, by omega, by omega, by omega, by omega, by omega, by first | exact Or.inr (Or.inl (⟨by omega, by omega, by omega⟩))⟩
                        · have _q : True := trivial
                          exfalso
                          omega
                      · have _q : True := trivial
                        refine jx_ld (pc' := 162) (l' := jSto1 L964 2 (.int (i32 (r967)))) (st' := []) rfl rfl ?_
                        obtain ⟨L991, eL991⟩ : ∃ q, q = jSto1 L964 2 (.int (i32 (r967))) := ⟨_, rfl⟩
                        rw [← eL991]
                        have gL991_0 : jGet L991 0 = some (.ref 66) := eL991 ▸ jg_ne (by decide) gL964_0 rfl
                        have gL991_1 : jGet L991 1 = some (.int (i32 (G 12))) := eL991 ▸ jg_ne (by decide) gL964_1 rfl
                        have gL991_2 : jGet L991 2 = some (.int (i32 (r967))) := eL991 ▸ jg_eq
                        refine jx_ld (pc' := 163) (l' := L991) (st' := [.ref 66]) rfl (jl_aloadn gL991_0) ?_
                        refine jx_vr (pc' := 166) (as := []) (st := []) rfl rfl rfl rfl ⟨rfl, rfl, Nat.le_of_ble_eq_true rfl⟩ rfl rfl (c_bad (dd := d) (hd := by omega) (hW := hW969)  (fk := fk2_968) (e_fk := show G965 16 = fk2_968 from (e972))    ) (fun o V' hq => ?_)
                        obtain ⟨r992, rfl, rfl, b993, q994⟩ := hq
                        refine .inr ⟨_, rfl, ?_⟩
                        rcases q994 with ⟨rfl, a995⟩ | ⟨rfl, a996⟩
                        · have _q : True := trivial
                          exfalso
                          omega
                        · have _q : True := trivial
                          refine jx_if_eq (pc' := 169) (tg := 171) rfl rfl rfl (by decide) (by decide) (fun h997 => ?_) (fun h997 => ?_)
                          · have _q := h997
                            refine jx_ld (pc' := 172) (l' := L991) (st' := [.ref 66]) rfl (jl_aloadn gL991_0) ?_
                            refine jx_vr (pc' := 175) (as := []) (st := []) rfl rfl rfl rfl ⟨rfl, rfl, Nat.le_of_ble_eq_true rfl⟩ rfl rfl (c_next (dd := d) (hd := by omega) (hW := hW969)  (ln := ln) (e_ln := show G965 9 = ln from ((hF970.1 9 rfl).trans (e_ln))) (le := le) (e_le := show A966 4 (ln).toNat = le from (congrFun (hF970.2 4 rfl) _).trans (e_le)) (at0 := at0) (e_at0 := show G965 10 = at0 from ((hF970.1 10 rfl).trans (e_at0)))    (p_0 := by omega)) (fun o V' hq => ?_)
                            obtain ⟨G998, A999, at2_1000, tk2_1001, rfl, rfl, hW1002, hF1003, e1004, e1005, p1006, p1007, p1008, -⟩ := hq
                            have hF1010 := Fr_tr hF974 hF1003 (Fr_sub (by decide)) (Fr_sub (by decide))
                            have hP1011 := Pf_f hP975 hF1003 (by decide)
                            have ec1012 : ecn A999 (G998 31) = ec := (ecn_f (hF1003.2 15 rfl) (hF1003.1 31 rfl)).trans ec976
                            have bat2_1000 : (0 : Int) ≤ at2_1000 ∧ at2_1000 ≤ 3002 := e1004 ▸ hW1002.1 10
                            have ztk2_1001 := tz_b tk2_1001
                            have btk2_1001 : (0 : Int) ≤ tk2_1001 ∧ tk2_1001 ≤ 5 := e1005 ▸ hW1002.1 11
                            refine .inl ⟨rfl, ?_⟩
                            have pz1013 : at0 + tz tk2_1001 ≤ at2_1000 := by omega
                            refine jx_ld (pc' := 176) (l' := L991) (st' := [.ref 66]) rfl (jl_aloadn gL991_0) ?_
                            refine jx_ld (pc' := 177) (l' := L991) (st' := [.int (i32 (r967)), .ref 66]) rfl (jl_iloadn gL991_2) ?_
                            refine jx_ld (pc' := 178) (l' := L991) (st' := [.int (i32 (G 12)), .int (i32 (r967)), .ref 66]) rfl (jl_iloadn gL991_1) ?_
                            refine jx_vr (pc' := 181) (as := [.int (i32 (r967)), .int (i32 (G 12))]) (st := []) rfl rfl rfl rfl ⟨rfl, rfl, Nat.le_of_ble_eq_true rfl⟩ rfl rfl (c_readValue_w (dd := d) (hE := hE) (hd := by omega) (hW := hW1002) (s := r967) (place := G 12) (ln := ln) (e_ln := show G998 9 = ln from ((hF1003.1 9 rfl).trans ((hF970.1 9 rfl).trans (e_ln)))) (le := le) (e_le := show A999 4 (ln).toNat = le from (congrFun ((hF1003.2 4 rfl).trans (hF970.2 4 rfl)) _).trans (e_le)) (at0 := at2_1000) (e_at0 := show G998 10 = at2_1000 from (e1004)) (fk := fk2_968) (e_fk := show G998 16 = fk2_968 from ((hF1003.1 16 rfl).trans (e972))) (op0 := op0) (e_op0 := show G998 15 = op0 from ((hF1003.1 15 rfl).trans ((hF970.1 15 rfl).trans (e_op0)))) (nd := nd) (e_nd := show G998 31 = nd from ((hF1003.1 31 rfl).trans ((hF970.1 31 rfl).trans (e_nd)))) (tk0 := tk2_1001) (e_tk0 := show G998 11 = tk2_1001 from (e1005)) (ec := ec) (e_ec := show ecn A999 (G998 31) = ec from ec1012) (i_SV := (SV_ext (((hF1003.1 29 rfl).trans (hF970.1 29 rfl))) (((hF1003.2 14 rfl).trans (hF970.2 14 rfl))) i_SV)) (h_s := ⟨(Int.le_trans (by decide : (-2147483648 : Int) ≤ -2147483648) b971.1), (Int.le_trans b971.2 (by decide : (2147483647 : Int) ≤ 2147483647))⟩) (h_place := ⟨(Int.le_trans (by decide : (-2147483648 : Int) ≤ -3000) b963.1), (Int.le_trans b963.2 (by decide : (3002 : Int) ≤ 2147483647))⟩)  (p_0 := by omega) (p_1 := by omega) (p_2 := by omega) (p_3 := by omega) (p_4 := by omega) (p_5 := by omega) (p_6 := by omega) (p_7 := by omega) (p_8 := by omega) (p_9 := by omega) (p_10 := a982)) (fun o V' hq => ?_)
                            obtain ⟨G1014, A1015, r1016, at2_1017, fk2_1018, op2_1019, nd2_1020, tk2_1021, ec2_1022, rfl, rfl, hW1023, hF1024, hQ1025, b1026, e1027, e1028, e1029, e1030, e1031, e1032, p1033, p1034, p1035, p1036, p1037, p1038, q1039⟩ := hq
                            have hF1040 := Fr_tr hF1010 hF1024 (Fr_sub (by decide)) (Fr_sub (by decide))
                            have hP1041 := Pf_tr hP1011 hQ1025 (by omega)
                            have bat2_1017 : (0 : Int) ≤ at2_1017 ∧ at2_1017 ≤ 3002 := e1027 ▸ hW1023.1 10
                            have bfk2_1018 : (0 : Int) ≤ fk2_1018 ∧ fk2_1018 ≤ 6 := e1028 ▸ hW1023.1 16
                            have bop2_1019 : (-2147483648 : Int) ≤ op2_1019 ∧ op2_1019 ≤ 2147483647 := e1029 ▸ hW1023.1 15
                            have bnd2_1020 : (0 : Int) ≤ nd2_1020 ∧ nd2_1020 ≤ 6999 := e1030 ▸ hW1023.1 31
                            have ztk2_1021 := tz_b tk2_1021
                            have btk2_1021 : (0 : Int) ≤ tk2_1021 ∧ tk2_1021 ≤ 5 := e1031 ▸ hW1023.1 11
                            refine .inr ⟨_, rfl, ?_⟩
                            rcases q1039 with ⟨a1042, a1043, a1044⟩ | ⟨a1045, a1046, a1047, a1048, a1049⟩
                            · have _q : True := trivial
                              refine jx_rt (v := some (.int (i32 (r1016)))) rfl rfl rfl rfl rfl rfl ?_
                              have z1050 := tz_f (tk2_1021)
                              exact ⟨_, _, _, at2_1017, fk2_1018, op2_1019, nd2_1020, tk2_1021, ec2_1022, rfl, rfl, hW1023, hF1040, hP1041, by omega, (e1027), (e1028), (e1029), (e1030), (e1031), e1032, by omega, by omega, by omega, by omega, by omega, by omega, by first | exact Or.inr (Or.inl (⟨by omega, by omega, by omega⟩))⟩
                            · have _q : True := trivial
                              refine jx_rt (v := some (.int (i32 (r1016)))) rfl rfl rfl rfl rfl rfl ?_
                              have z1051 := tz_f (tk2_1021)
                              exact ⟨_, _, _, at2_1017, fk2_1018, op2_1019, nd2_1020, tk2_1021, ec2_1022, rfl, rfl, hW1023, hF1040, hP1041, by omega, (e1027), (e1028), (e1029), (e1030), (e1031), e1032, by omega, by omega, by omega, by omega, by omega, by omega, by first | exact Or.inr (Or.inr ((⟨by omega, by omega, by omega, a1048, by omega, by omega⟩)))⟩
                          · have _q := h997
                            exact absurd h997 (by omega)
                    · have _q := h962
                      refine jx_ld (pc' := 142) (l' := [(0, .ref 66)]) (st' := [.ref 66]) rfl (jl_aloadn rfl) ?_
                      refine jx_ar (pc' := 143) (st' := [.int (i32 (1)), .ref 66]) rfl rfl rfl rfl ?_
                      refine jx_ld (pc' := 144) (l' := [(0, .ref 66)]) (st' := [.ref 66, .int (i32 (1)), .ref 66]) rfl (jl_aloadn rfl) ?_
                      have b1052 : (-3000 : Int) ≤ G 12 ∧ G 12 ≤ 3002 := hW.1 12
                      refine jr_get (pc' := 147) (i := 12) (v := .int (i32 (G 12))) rfl rfl (by decide) rfl rfl ?_
                      refine jx_vr (pc' := 150) (as := [.int (i32 (1)), .int (i32 (G 12))]) (st := []) rfl rfl rfl rfl ⟨rfl, rfl, Nat.le_of_ble_eq_true rfl⟩ rfl rfl (c_fail (dd := d) (hd := by omega) (hW := hW) (kind := 1) (place := G 12) (fk := fk) (e_fk := show G 16 = fk from (e_fk))  (h_kind := ⟨(by decide), (by decide)⟩) (h_place := ⟨(Int.le_trans (by decide : (-2147483648 : Int) ≤ -3000) b1052.1), (Int.le_trans b1052.2 (by decide : (3002 : Int) ≤ 2147483647))⟩)  (p_0 := by omega) (p_1 := by omega)) (fun o V' hq => ?_)
                      obtain ⟨G1053, A1054, fk2_1055, rfl, rfl, hW1056, hF1057, e1058, p1059, -⟩ := hq
                      have hF1061 := Fr_tr hF0 hF1057 (Fr_sub (by decide)) (Fr_sub (by decide))
                      have hP1062 := Pf_f hP0 hF1057 (by decide)
                      have ec1063 : ecn A1054 (G1053 31) = ec := (ecn_f (hF1057.2 15 rfl) (hF1057.1 31 rfl)).trans e_ec
                      have bfk2_1055 : (0 : Int) ≤ fk2_1055 ∧ fk2_1055 ≤ 6 := e1058 ▸ hW1056.1 16
                      refine .inl ⟨rfl, ?_⟩
                      refine jx_ar (pc' := 151) (st' := [.int (i32 (0))]) rfl rfl rfl rfl ?_
                      refine jx_rt (v := some (.int (i32 (0)))) rfl rfl rfl rfl rfl rfl ?_
                      have z1064 := tz_f (tk0)
                      exact ⟨_, _, _, at0, fk2_1055, op0, nd, tk0, ec, rfl, rfl, hW1056, hF1061, hP1062, by omega, ((hF1057.1 10 rfl).trans (e_at0)), (e1058), ((hF1057.1 15 rfl).trans (e_op0)), ((hF1057.1 31 rfl).trans (e_nd)), ((hF1057.1 11 rfl).trans (e_tk0)), ec1063, by omega, by omega, by omega, by omega, by omega, by omega, by first | exact Or.inr (Or.inl (⟨by omega, by omega, by omega⟩))⟩
                  · have _q := h960
                    exact absurd h960 (by omega)
              · have _q := h356
                exact absurd h356 (by omega)
    · have _q := h8
      exact absurd h8 (by omega)
set_option maxRecDepth 20000 in
set_option maxHeartbeats 4000000 in
theorem c_readRest_w {X : jX} {k : Nat} (hE : REw X k) {dd : Nat} {Vs : Nat → Prop} {sb : Int} {c0 c1 : jC} {G : Nat → Int} {A : Nat → Nat → Int} {T : jH} {x : Int} {lo : Int} {ln le at0 fk op0 nd tk0 ec : Int} (hd : 6 * k + 15 ≤ dd) (hW : Wk G A) (e_ln : G 9 = ln) (e_le : A 4 (ln).toNat = le) (e_at0 : G 10 = at0) (e_fk : G 16 = fk) (e_op0 : G 15 = op0) (e_nd : G 31 = nd) (e_tk0 : G 11 = tk0) (e_ec : ecn A (G 31) = ec) (i_SV : SV Vs sb G A) (h_x : (-2147483648 : Int) ≤ x ∧ x ≤ 2147483647) (p_0 : 0 ≤ op0) (p_1 : op0 ≤ 9) (p_2 : op0 ≤ 8 ∨ 1 ≤ fk) (p_3 : 9 - op0 ≤ ((k + 1 : Nat) : Int) ∨ 1 ≤ fk) (p_4 : nd ≤ 2 * at0 - tz tk0 + 51) (p_5 : at0 ≤ le) (p_6 : nd ≤ 2 * at0 - tz tk0 + 50 ∨ 1 ≤ fk) (p_7 : 0 ≤ x ∧ x ≤ nd) (p_8 : 0 ≤ lo ∧ lo ≤ nd) (p_9 : fk = 0 → wE A Vs sb (2 * k + 3) (x) (lo) (nd)) : wk X dd 287 [.ref 66, .int (i32 x)] (rV c0 c1 G A T) (fun o V' => ∃ (G' : Nat → Int) (A' : Nat → Nat → Int) (r : Int) (at2 : Int) (fk2 : Int) (op2 : Int) (nd2 : Int) (tk2 : Int) (ec2 : Int), V' = rV c0 c1 G' A' T ∧ o = .inl (some (.int (i32 r))) ∧ Wk G' A' ∧ Fr [10, 11, 12, 13, 14, 15, 16, 17, 18, 31] [15, 16, 17, 18, 19, 20, 21, 22, 24, 28] G A G' A' ∧ Pf nd A A' ∧ ((-2147483648 : Int) ≤ r ∧ r ≤ 2147483647) ∧ G' 10 = at2 ∧ G' 16 = fk2 ∧ G' 15 = op2 ∧ G' 31 = nd2 ∧ G' 11 = tk2 ∧ ecn A' (G' 31) = ec2 ∧ (at0 ≤ at2) ∧ (at2 ≤ le) ∧ (nd ≤ nd2) ∧ (op2 = op0) ∧ (0 ≤ r) ∧ (r ≤ nd2) ∧ (((1 ≤ fk) ∧ (1 ≤ fk2) ∧ (nd2 = nd) ∧ (at2 = at0) ∧ (tk2 = tk0) ∧ (tz tk2 = tz tk0)) ∨ ((fk = 0) ∧ (1 ≤ fk2) ∧ (nd2 - nd ≤ (2 * at2 - tz tk2) - (2 * at0 - tz tk0) + 1)) ∨ ((fk = 0) ∧ (fk2 = 0) ∧ (nd2 - nd ≤ (2 * at2 - tz tk2) - (2 * at0 - tz tk0)) ∧ (wE A' Vs sb (2 * k + 4) (r) (lo) (nd2)) ∧ (nd2 - nd + 5 * (ec2 - ec) ≤ (2 * at2 - tz tk2) - (2 * at0 - tz tk0) + tz tk0 - tz tk2)))) := by
  obtain ⟨d, rfl⟩ : ∃ d, dd = d + 1 := ⟨dd - 1, by omega⟩
  refine wk_of (e := jm287) rfl (Nat.le_of_ble_eq_true rfl) ?_
  show wj X d jm287 (0, [(0, .ref 66), (1, .int (i32 (x)))], [], rV c0 c1 G A T) _
  have hF0 : Fr [10, 11, 12, 13, 14, 15, 16, 17, 18, 31] [15, 16, 17, 18, 19, 20, 21, 22, 24, 28] G A G A := Fr_rf
  have hP0 : Pf nd A A := Pf_rf
  have b_ln : (0 : Int) ≤ ln ∧ ln ≤ 3000 := e_ln ▸ hW.1 9
  have b_le : (0 : Int) ≤ le ∧ le ≤ 3000 := e_le ▸ hW.2 4 _
  have b_at0 : (0 : Int) ≤ at0 ∧ at0 ≤ 3002 := e_at0 ▸ hW.1 10
  have b_fk : (0 : Int) ≤ fk ∧ fk ≤ 6 := e_fk ▸ hW.1 16
  have b_op0 : (-2147483648 : Int) ≤ op0 ∧ op0 ≤ 2147483647 := e_op0 ▸ hW.1 15
  have b_nd : (0 : Int) ≤ nd ∧ nd ≤ 6999 := e_nd ▸ hW.1 31
  have z_tk0 := tz_f tk0
  have b_tk0 : (0 : Int) ≤ tk0 ∧ tk0 ≤ 5 := e_tk0 ▸ hW.1 11
  refine jx_ld (pc' := 1) (l' := [(0, .ref 66), (1, .int (i32 (x)))]) (st' := [.ref 66]) rfl (jl_aloadn rfl) ?_
  refine jx_vr (pc' := 4) (as := []) (st := []) rfl rfl rfl rfl ⟨rfl, rfl, Nat.le_of_ble_eq_true rfl⟩ rfl rfl (c_bad (dd := d) (hd := by omega) (hW := hW)  (fk := fk) (e_fk := show G 16 = fk from (e_fk))    ) (fun o V' hq => ?_)
  obtain ⟨r1, rfl, rfl, b2, q3⟩ := hq
  refine .inr ⟨_, rfl, ?_⟩
  rcases q3 with ⟨rfl, a4⟩ | ⟨rfl, a5⟩
  · have _q : True := trivial
    refine jx_if_eq (pc' := 7) (tg := 11) rfl rfl rfl (by decide) (by decide) (fun h6 => ?_) (fun h6 => ?_)
    · have _q := h6
      exact absurd h6 (by omega)
    · have _q := h6
      refine jx_ar (pc' := 8) (st' := [.int (i32 (0))]) rfl rfl rfl rfl ?_
      refine jx_go (tg := 15) rfl rfl ?_
      refine jx_ld (pc' := 16) (l' := jSto1 [(0, .ref 66), (1, .int (i32 (x)))] 2 (.int (i32 (0)))) (st' := []) rfl rfl ?_
      obtain ⟨L7, eL7⟩ : ∃ q, q = jSto1 [(0, .ref 66), (1, .int (i32 (x)))] 2 (.int (i32 (0))) := ⟨_, rfl⟩
      rw [← eL7]
      have gL7_0 : jGet L7 0 = some (.ref 66) := eL7 ▸ jg_ne (by decide) (rfl : jGet [(0, .ref 66), (1, .int (i32 (x)))] 0 = some (.ref 66)) rfl
      have gL7_1 : jGet L7 1 = some (.int (i32 (x))) := eL7 ▸ jg_ne (by decide) (rfl : jGet [(0, .ref 66), (1, .int (i32 (x)))] 1 = some (.int (i32 (x)))) rfl
      have gL7_2 : jGet L7 2 = some (.int (i32 (0))) := eL7 ▸ jg_eq
      refine jx_ld (pc' := 17) (l' := L7) (st' := [.int (i32 (0))]) rfl (jl_iloadn gL7_2) ?_
      refine jx_if_ne (pc' := 20) (tg := 22) rfl rfl rfl (by decide) (by decide) (fun h8 => ?_) (fun h8 => ?_)
      · have _q := h8
        exact absurd h8 (by omega)
      · have _q := h8
        refine jx_ld (pc' := 21) (l' := L7) (st' := [.int (i32 (x))]) rfl (jl_iloadn gL7_1) ?_
        refine jx_rt (v := some (.int (i32 (x)))) rfl rfl rfl rfl rfl rfl ?_
        have z9 := tz_f (tk0)
        exact ⟨_, _, _, at0, fk, op0, nd, tk0, ec, rfl, rfl, hW, hF0, hP0, by omega, (e_at0), (e_fk), (e_op0), (e_nd), (e_tk0), e_ec, by omega, by omega, by omega, by omega, by omega, by omega, by first | exact Or.inl (⟨by omega, by omega, by omega, by omega, by omega, by omega⟩)⟩
  · have _q : True := trivial
    refine jx_if_eq (pc' := 7) (tg := 11) rfl rfl rfl (by decide) (by decide) (fun h10 => ?_) (fun h10 => ?_)
    · have _q := h10
      refine jx_ld (pc' := 12) (l' := [(0, .ref 66), (1, .int (i32 (x)))]) (st' := [.ref 66]) rfl (jl_aloadn rfl) ?_
      have b11 : (-2147483648 : Int) ≤ G 13 ∧ G 13 ≤ 2147483647 := hW.1 13
      refine jx_vr (pc' := 15) (as := []) (st := []) rfl rfl rfl rfl ⟨rfl, rfl, Nat.le_of_ble_eq_true rfl⟩ rfl rfl (c_operationAt (dd := d) (hd := by omega) (hW := hW)  (tk := tk0) (e_tk := show G 11 = tk0 from (e_tk0)) (tn := G 13) (e_tn := show G 13 = G 13 from rfl)    ) (fun o V' hq => ?_)
      obtain ⟨r12, rfl, rfl, b13, q14⟩ := hq
      refine .inr ⟨_, rfl, ?_⟩
      rcases q14 with rfl | a15
      · have _q : True := trivial
        refine jx_ld (pc' := 16) (l' := jSto1 [(0, .ref 66), (1, .int (i32 (x)))] 2 (.int (i32 (0)))) (st' := []) rfl rfl ?_
        obtain ⟨L16, eL16⟩ : ∃ q, q = jSto1 [(0, .ref 66), (1, .int (i32 (x)))] 2 (.int (i32 (0))) := ⟨_, rfl⟩
        rw [← eL16]
        have gL16_0 : jGet L16 0 = some (.ref 66) := eL16 ▸ jg_ne (by decide) (rfl : jGet [(0, .ref 66), (1, .int (i32 (x)))] 0 = some (.ref 66)) rfl
        have gL16_1 : jGet L16 1 = some (.int (i32 (x))) := eL16 ▸ jg_ne (by decide) (rfl : jGet [(0, .ref 66), (1, .int (i32 (x)))] 1 = some (.int (i32 (x)))) rfl
        have gL16_2 : jGet L16 2 = some (.int (i32 (0))) := eL16 ▸ jg_eq
        refine jx_ld (pc' := 17) (l' := L16) (st' := [.int (i32 (0))]) rfl (jl_iloadn gL16_2) ?_
        refine jx_if_ne (pc' := 20) (tg := 22) rfl rfl rfl (by decide) (by decide) (fun h17 => ?_) (fun h17 => ?_)
        · have _q := h17
          exact absurd h17 (by omega)
        · have _q := h17
          refine jx_ld (pc' := 21) (l' := L16) (st' := [.int (i32 (x))]) rfl (jl_iloadn gL16_1) ?_
          refine jx_rt (v := some (.int (i32 (x)))) rfl rfl rfl rfl rfl rfl ?_
          have z18 := tz_f (tk0)
          exact ⟨_, _, _, at0, fk, op0, nd, tk0, ec, rfl, rfl, hW, hF0, hP0, by omega, (e_at0), (e_fk), (e_op0), (e_nd), (e_tk0), e_ec, by omega, by omega, by omega, by omega, by omega, by omega, by first | exact Or.inr (Or.inr ((⟨by omega, by omega, by omega, (wE_mono (by omega) (by omega) (by omega) (p_9 (by omega))), by omega⟩)))⟩
      · have _q : True := trivial
        refine jx_ld (pc' := 16) (l' := jSto1 [(0, .ref 66), (1, .int (i32 (x)))] 2 (.int (i32 (r12)))) (st' := []) rfl rfl ?_
        obtain ⟨L19, eL19⟩ : ∃ q, q = jSto1 [(0, .ref 66), (1, .int (i32 (x)))] 2 (.int (i32 (r12))) := ⟨_, rfl⟩
        rw [← eL19]
        have gL19_0 : jGet L19 0 = some (.ref 66) := eL19 ▸ jg_ne (by decide) (rfl : jGet [(0, .ref 66), (1, .int (i32 (x)))] 0 = some (.ref 66)) rfl
        have gL19_1 : jGet L19 1 = some (.int (i32 (x))) := eL19 ▸ jg_ne (by decide) (rfl : jGet [(0, .ref 66), (1, .int (i32 (x)))] 1 = some (.int (i32 (x)))) rfl
        have gL19_2 : jGet L19 2 = some (.int (i32 (r12))) := eL19 ▸ jg_eq
        refine jx_ld (pc' := 17) (l' := L19) (st' := [.int (i32 (r12))]) rfl (jl_iloadn gL19_2) ?_
        refine jx_if_ne (pc' := 20) (tg := 22) rfl rfl rfl (Int.le_trans (by decide : (-2147483648 : Int) ≤ -2147483648) b13.1) (Int.le_trans b13.2 (by decide : (2147483647 : Int) ≤ 2147483647)) (fun h20 => ?_) (fun h20 => ?_)
        · have _q := h20
          refine jx_ld (pc' := 23) (l' := L19) (st' := [.ref 66]) rfl (jl_aloadn gL19_0) ?_
          refine jx_vr (pc' := 26) (as := []) (st := []) rfl rfl rfl rfl ⟨rfl, rfl, Nat.le_of_ble_eq_true rfl⟩ rfl rfl (c_next (dd := d) (hd := by omega) (hW := hW)  (ln := ln) (e_ln := show G 9 = ln from (e_ln)) (le := le) (e_le := show A 4 (ln).toNat = le from (e_le)) (at0 := at0) (e_at0 := show G 10 = at0 from (e_at0))    (p_0 := by omega)) (fun o V' hq => ?_)
          obtain ⟨G21, A22, at2_23, tk2_24, rfl, rfl, hW25, hF26, e27, e28, p29, p30, p31, -⟩ := hq
          have hF33 := Fr_tr hF0 hF26 (Fr_sub (by decide)) (Fr_sub (by decide))
          have hP34 := Pf_f hP0 hF26 (by decide)
          have sf35 : wE A22 Vs sb (2 * k + 3) (x) (lo) (nd) := wE_ag (by omega) (Sg_fr hF26 (by decide)) (Ag_fr hF26 (by decide)) (p_9 (by omega))
          have ec36 : ecn A22 (G21 31) = ec := (ecn_f (hF26.2 15 rfl) (hF26.1 31 rfl)).trans e_ec
          have bat2_23 : (0 : Int) ≤ at2_23 ∧ at2_23 ≤ 3002 := e27 ▸ hW25.1 10
          have ztk2_24 := tz_b tk2_24
          have btk2_24 : (0 : Int) ≤ tk2_24 ∧ tk2_24 ≤ 5 := e28 ▸ hW25.1 11
          refine .inl ⟨rfl, ?_⟩
          have pz37 : at0 + tz tk2_24 ≤ at2_23 := by omega
          refine jx_ld (pc' := 27) (l' := L19) (st' := [.ref 66]) rfl (jl_aloadn gL19_0) ?_
          refine jx_vr (pc' := 30) (as := []) (st := []) rfl rfl rfl rfl ⟨rfl, rfl, Nat.le_of_ble_eq_true rfl⟩ rfl rfl (c_readOperand_w (dd := d) (hE := hE) (hd := by omega) (hW := hW25)  (ln := ln) (e_ln := show G21 9 = ln from ((hF26.1 9 rfl).trans (e_ln))) (le := le) (e_le := show A22 4 (ln).toNat = le from (congrFun (hF26.2 4 rfl) _).trans (e_le)) (at0 := at2_23) (e_at0 := show G21 10 = at2_23 from (e27)) (fk := fk) (e_fk := show G21 16 = fk from ((hF26.1 16 rfl).trans (e_fk))) (op0 := op0) (e_op0 := show G21 15 = op0 from ((hF26.1 15 rfl).trans (e_op0))) (nd := nd) (e_nd := show G21 31 = nd from ((hF26.1 31 rfl).trans (e_nd))) (tk0 := tk2_24) (e_tk0 := show G21 11 = tk2_24 from (e28)) (ec := ec) (e_ec := show ecn A22 (G21 31) = ec from ec36) (i_SV := (SV_ext ((hF26.1 29 rfl)) ((hF26.2 14 rfl)) i_SV))   (p_0 := by omega) (p_1 := by omega) (p_2 := by omega) (p_3 := by omega) (p_4 := by omega) (p_5 := by omega)) (fun o V' hq => ?_)
          obtain ⟨G38, A39, r40, at2_41, fk2_42, op2_43, nd2_44, tk2_45, ec2_46, rfl, rfl, hW47, hF48, hQ49, b50, e51, e52, e53, e54, e55, e56, p57, p58, p59, p60, p61, p62, q63⟩ := hq
          have hF64 := Fr_tr hF33 hF48 (Fr_sub (by decide)) (Fr_sub (by decide))
          have hP65 := Pf_tr hP34 hQ49 (by omega)
          have sf66 : wE A39 Vs sb (2 * k + 3) (x) (lo) (nd) := wE_ag (by omega) (Sg_fr hF48 (by decide)) (Ag_pf hQ49 (by omega)) sf35
          have bat2_41 : (0 : Int) ≤ at2_41 ∧ at2_41 ≤ 3002 := e51 ▸ hW47.1 10
          have bfk2_42 : (0 : Int) ≤ fk2_42 ∧ fk2_42 ≤ 6 := e52 ▸ hW47.1 16
          have bop2_43 : (-2147483648 : Int) ≤ op2_43 ∧ op2_43 ≤ 2147483647 := e53 ▸ hW47.1 15
          have bnd2_44 : (0 : Int) ≤ nd2_44 ∧ nd2_44 ≤ 6999 := e54 ▸ hW47.1 31
          have ztk2_45 := tz_b tk2_45
          have btk2_45 : (0 : Int) ≤ tk2_45 ∧ tk2_45 ≤ 5 := e55 ▸ hW47.1 11
          refine .inr ⟨_, rfl, ?_⟩
          rcases q63 with ⟨a67, a68, a69, a70, a71, a72⟩ | ⟨a73, a74, a75⟩ | ⟨a76, a77, a78, a79, a80, a81⟩
          · have _q : True := trivial
            exfalso
            omega
          · have _q : True := trivial
            refine jx_ld (pc' := 31) (l' := jSto1 L19 3 (.int (i32 (r40)))) (st' := []) rfl rfl ?_
            obtain ⟨L82, eL82⟩ : ∃ q, q = jSto1 L19 3 (.int (i32 (r40))) := ⟨_, rfl⟩
            rw [← eL82]
            have gL82_0 : jGet L82 0 = some (.ref 66) := eL82 ▸ jg_ne (by decide) gL19_0 rfl
            have gL82_1 : jGet L82 1 = some (.int (i32 (x))) := eL82 ▸ jg_ne (by decide) gL19_1 rfl
            have gL82_2 : jGet L82 2 = some (.int (i32 (r12))) := eL82 ▸ jg_ne (by decide) gL19_2 rfl
            have gL82_3 : jGet L82 3 = some (.int (i32 (r40))) := eL82 ▸ jg_eq
            refine jx_ld (pc' := 32) (l' := L82) (st' := [.ref 66]) rfl (jl_aloadn gL82_0) ?_
            refine jx_ar (pc' := 33) (st' := [.int (i32 (4)), .ref 66]) rfl rfl rfl rfl ?_
            refine jx_ld (pc' := 34) (l' := L82) (st' := [.int (i32 (r12)), .int (i32 (4)), .ref 66]) rfl (jl_iloadn gL82_2) ?_
            refine jx_ld (pc' := 35) (l' := L82) (st' := [.int (i32 (x)), .int (i32 (r12)), .int (i32 (4)), .ref 66]) rfl (jl_iloadn gL82_1) ?_
            refine jx_ld (pc' := 36) (l' := L82) (st' := [.int (i32 (r40)), .int (i32 (x)), .int (i32 (r12)), .int (i32 (4)), .ref 66]) rfl (jl_iloadn gL82_3) ?_
            refine jx_ar (pc' := 37) (st' := [.int (i32 (0)), .int (i32 (r40)), .int (i32 (x)), .int (i32 (r12)), .int (i32 (4)), .ref 66]) rfl rfl rfl rfl ?_
            refine jx_vr (pc' := 40) (as := [.int (i32 (4)), .int (i32 (r12)), .int (i32 (x)), .int (i32 (r40)), .int (i32 (0))]) (st := []) rfl rfl rfl rfl ⟨rfl, rfl, Nat.le_of_ble_eq_true rfl⟩ rfl rfl (c_node_o (dd := d) (hd := by omega) (hW := hW47) (kind := 4) (a := r12) (b := x) (c := r40) (e := 0) (nd := nd2_44) (e_nd := show G38 31 = nd2_44 from (e54)) (ec := ec2_46) (e_ec := show ecn A39 (G38 31) = ec2_46 from e56)  (h_kind := ⟨(by decide), (by decide)⟩) (h_a := ⟨(Int.le_trans (by decide : (-2147483648 : Int) ≤ -2147483648) b13.1), (Int.le_trans b13.2 (by decide : (2147483647 : Int) ≤ 2147483647))⟩) (h_b := ⟨(Int.le_trans (by decide : (-2147483648 : Int) ≤ -2147483648) h_x.1), (Int.le_trans h_x.2 (by decide : (2147483647 : Int) ≤ 2147483647))⟩) (h_c := ⟨(Int.le_trans (by decide : (-2147483648 : Int) ≤ -2147483648) b50.1), (Int.le_trans b50.2 (by decide : (2147483647 : Int) ≤ 2147483647))⟩) (h_e := ⟨(by decide), (by decide)⟩)  (p_0 := by omega) (p_1 := by omega) (p_2 := by omega)) (fun o V' hq => ?_)
            obtain ⟨G83, A84, nd2_85, ec2_86, rfl, rfl, hW87, hF88, hQ89, e90, e91, p92, p93, p94, -⟩ := hq
            have hF96 := Fr_tr hF64 hF88 (Fr_sub (by decide)) (Fr_sub (by decide))
            have hP97 := Pf_tr hP65 hQ89 (by omega)
            have sf98 : wE A84 Vs sb (2 * k + 3) (x) (lo) (nd) := wE_ag (by omega) (Sg_fr hF88 (by decide)) (Ag_pf hQ89 (by omega)) sf66
            have bnd2_85 : (0 : Int) ≤ nd2_85 ∧ nd2_85 ≤ 6999 := e90 ▸ hW87.1 31
            refine .inr ⟨_, rfl, ?_⟩
            refine jx_rt (v := some (.int (i32 (nd2_44)))) rfl rfl rfl rfl rfl rfl ?_
            have z99 := tz_f (tk2_45)
            exact ⟨_, _, _, at2_41, fk2_42, op2_43, nd2_85, tk2_45, ec2_86, rfl, rfl, hW87, hF96, hP97, by omega, ((hF88.1 10 rfl).trans (e51)), ((hF88.1 16 rfl).trans (e52)), ((hF88.1 15 rfl).trans (e53)), (e90), ((hF88.1 11 rfl).trans (e55)), e91, by omega, by omega, by omega, by omega, by omega, by omega, by first | exact Or.inr (Or.inl (⟨by omega, by omega, by omega⟩))⟩
          · have _q : True := trivial
            refine jx_ld (pc' := 31) (l' := jSto1 L19 3 (.int (i32 (r40)))) (st' := []) rfl rfl ?_
            obtain ⟨L100, eL100⟩ : ∃ q, q = jSto1 L19 3 (.int (i32 (r40))) := ⟨_, rfl⟩
            rw [← eL100]
            have gL100_0 : jGet L100 0 = some (.ref 66) := eL100 ▸ jg_ne (by decide) gL19_0 rfl
            have gL100_1 : jGet L100 1 = some (.int (i32 (x))) := eL100 ▸ jg_ne (by decide) gL19_1 rfl
            have gL100_2 : jGet L100 2 = some (.int (i32 (r12))) := eL100 ▸ jg_ne (by decide) gL19_2 rfl
            have gL100_3 : jGet L100 3 = some (.int (i32 (r40))) := eL100 ▸ jg_eq
            refine jx_ld (pc' := 32) (l' := L100) (st' := [.ref 66]) rfl (jl_aloadn gL100_0) ?_
            refine jx_ar (pc' := 33) (st' := [.int (i32 (4)), .ref 66]) rfl rfl rfl rfl ?_
            refine jx_ld (pc' := 34) (l' := L100) (st' := [.int (i32 (r12)), .int (i32 (4)), .ref 66]) rfl (jl_iloadn gL100_2) ?_
            refine jx_ld (pc' := 35) (l' := L100) (st' := [.int (i32 (x)), .int (i32 (r12)), .int (i32 (4)), .ref 66]) rfl (jl_iloadn gL100_1) ?_
            refine jx_ld (pc' := 36) (l' := L100) (st' := [.int (i32 (r40)), .int (i32 (x)), .int (i32 (r12)), .int (i32 (4)), .ref 66]) rfl (jl_iloadn gL100_3) ?_
            refine jx_ar (pc' := 37) (st' := [.int (i32 (0)), .int (i32 (r40)), .int (i32 (x)), .int (i32 (r12)), .int (i32 (4)), .ref 66]) rfl rfl rfl rfl ?_
            refine jx_vr (pc' := 40) (as := [.int (i32 (4)), .int (i32 (r12)), .int (i32 (x)), .int (i32 (r40)), .int (i32 (0))]) (st := []) rfl rfl rfl rfl ⟨rfl, rfl, Nat.le_of_ble_eq_true rfl⟩ rfl rfl (c_node_o (dd := d) (hd := by omega) (hW := hW47) (kind := 4) (a := r12) (b := x) (c := r40) (e := 0) (nd := nd2_44) (e_nd := show G38 31 = nd2_44 from (e54)) (ec := ec2_46) (e_ec := show ecn A39 (G38 31) = ec2_46 from e56)  (h_kind := ⟨(by decide), (by decide)⟩) (h_a := ⟨(Int.le_trans (by decide : (-2147483648 : Int) ≤ -2147483648) b13.1), (Int.le_trans b13.2 (by decide : (2147483647 : Int) ≤ 2147483647))⟩) (h_b := ⟨(Int.le_trans (by decide : (-2147483648 : Int) ≤ -2147483648) h_x.1), (Int.le_trans h_x.2 (by decide : (2147483647 : Int) ≤ 2147483647))⟩) (h_c := ⟨(Int.le_trans (by decide : (-2147483648 : Int) ≤ -2147483648) b50.1), (Int.le_trans b50.2 (by decide : (2147483647 : Int) ≤ 2147483647))⟩) (h_e := ⟨(by decide), (by decide)⟩)  (p_0 := by omega) (p_1 := by omega) (p_2 := by omega)) (fun o V' hq => ?_)
            obtain ⟨G101, A102, nd2_103, ec2_104, rfl, rfl, hW105, hF106, hQ107, e108, e109, p110, p111, p112, -⟩ := hq
            have hF114 := Fr_tr hF64 hF106 (Fr_sub (by decide)) (Fr_sub (by decide))
            have hP115 := Pf_tr hP65 hQ107 (by omega)
            have sf116 : wE A102 Vs sb (2 * k + 3) (x) (lo) (nd) := wE_ag (by omega) (Sg_fr hF106 (by decide)) (Ag_pf hQ107 (by omega)) sf66
            have sf117 : wE A102 Vs sb (2 * k + 3) (r40) (nd) (nd2_44) := wE_ag (by omega) (Sg_fr hF106 (by decide)) (Ag_pf hQ107 (by omega)) a79
            have bnd2_103 : (0 : Int) ≤ nd2_103 ∧ nd2_103 ≤ 6999 := e108 ▸ hW105.1 31
            refine .inr ⟨_, rfl, ?_⟩
            refine jx_rt (v := some (.int (i32 (nd2_44)))) rfl rfl rfl rfl rfl rfl ?_
            have z118 := tz_f (tk2_45)
            exact ⟨_, _, _, at2_41, fk2_42, op2_43, nd2_103, tk2_45, ec2_104, rfl, rfl, hW105, hF114, hP115, by omega, ((hF106.1 10 rfl).trans (e51)), ((hF106.1 16 rfl).trans (e52)), ((hF106.1 15 rfl).trans (e53)), (e108), ((hF106.1 11 rfl).trans (e55)), e109, by omega, by omega, by omega, by omega, by omega, by omega, by first | exact Or.inr (Or.inr ((⟨by omega, by omega, by omega, (wE_two p112 (by omega) (by omega) (w := nd) (by omega) (by omega) (wE_mono (by omega) (by omega) (by omega) sf116) (wE_mono (by omega) (by omega) (by omega) sf117)), by omega⟩)))⟩
        · have _q := h20
          refine jx_ld (pc' := 21) (l' := L19) (st' := [.int (i32 (x))]) rfl (jl_iloadn gL19_1) ?_
          refine jx_rt (v := some (.int (i32 (x)))) rfl rfl rfl rfl rfl rfl ?_
          have z119 := tz_f (tk0)
          exact ⟨_, _, _, at0, fk, op0, nd, tk0, ec, rfl, rfl, hW, hF0, hP0, by omega, (e_at0), (e_fk), (e_op0), (e_nd), (e_tk0), e_ec, by omega, by omega, by omega, by omega, by omega, by omega, by first | exact Or.inr (Or.inr ((⟨by omega, by omega, by omega, (wE_mono (by omega) (by omega) (by omega) (p_9 (by omega))), by omega⟩)))⟩
    · have _q := h10
      exact absurd h10 (by omega)
set_option maxRecDepth 20000 in
set_option maxHeartbeats 4000000 in
theorem c_readE_s_w {X : jX} {k : Nat} (hE : REw X k) {dd : Nat} {Vs : Nat → Prop} {sb : Int} {c0 c1 : jC} {G : Nat → Int} {A : Nat → Nat → Int} {T : jH} {ln le at0 fk op0 nd tk0 ec : Int} (hd : 6 * (k + 1) + 10 ≤ dd) (hW : Wk G A) (e_ln : G 9 = ln) (e_le : A 4 (ln).toNat = le) (e_at0 : G 10 = at0) (e_fk : G 16 = fk) (e_op0 : G 15 = op0) (e_nd : G 31 = nd) (e_tk0 : G 11 = tk0) (e_ec : ecn A (G 31) = ec) (i_SV : SV Vs sb G A) (p_0 : 0 ≤ op0) (p_1 : op0 ≤ 9) (p_2 : op0 ≤ 8 ∨ 1 ≤ fk) (p_3 : 9 - op0 ≤ ((k + 1 : Nat) : Int) ∨ 1 ≤ fk) (p_4 : nd ≤ 2 * at0 - tz tk0 + 50) (p_5 : at0 ≤ le) : wk X dd 286 [.ref 66] (rV c0 c1 G A T) (fun o V' => ∃ (G' : Nat → Int) (A' : Nat → Nat → Int) (r : Int) (at2 : Int) (fk2 : Int) (op2 : Int) (nd2 : Int) (tk2 : Int) (ec2 : Int), V' = rV c0 c1 G' A' T ∧ o = .inl (some (.int (i32 r))) ∧ Wk G' A' ∧ Fr [10, 11, 12, 13, 14, 15, 16, 17, 18, 31] [15, 16, 17, 18, 19, 20, 21, 22, 24, 28] G A G' A' ∧ Pf nd A A' ∧ ((-2147483648 : Int) ≤ r ∧ r ≤ 2147483647) ∧ G' 10 = at2 ∧ G' 16 = fk2 ∧ G' 15 = op2 ∧ G' 31 = nd2 ∧ G' 11 = tk2 ∧ ecn A' (G' 31) = ec2 ∧ (at0 ≤ at2) ∧ (at2 ≤ le) ∧ (nd ≤ nd2) ∧ (op2 = op0) ∧ (0 ≤ r) ∧ (r ≤ nd2) ∧ (((1 ≤ fk) ∧ (1 ≤ fk2) ∧ (nd2 = nd) ∧ (at2 = at0) ∧ (tk2 = tk0) ∧ (tz tk2 = tz tk0)) ∨ ((fk = 0) ∧ (1 ≤ fk2) ∧ (nd2 - nd ≤ (2 * at2 - tz tk2) - (2 * at0 - tz tk0) + 1)) ∨ ((fk = 0) ∧ (fk2 = 0) ∧ (nd2 - nd ≤ (2 * at2 - tz tk2) - (2 * at0 - tz tk0)) ∧ (wE A' Vs sb (2 * (k + 1) + 2) (r) (nd) (nd2)) ∧ (nd2 - nd + 5 * (ec2 - ec) ≤ (2 * at2 - tz tk2) - (2 * at0 - tz tk0) - tz tk2) ∧ (tz tk0 = 1)))) := by
  obtain ⟨d, rfl⟩ : ∃ d, dd = d + 1 := ⟨dd - 1, by omega⟩
  refine wk_of (e := jm286) rfl (Nat.le_of_ble_eq_true rfl) ?_
  show wj X d jm286 (0, [(0, .ref 66)], [], rV c0 c1 G A T) _
  have hF0 : Fr [10, 11, 12, 13, 14, 15, 16, 17, 18, 31] [15, 16, 17, 18, 19, 20, 21, 22, 24, 28] G A G A := Fr_rf
  have hP0 : Pf nd A A := Pf_rf
  have b_ln : (0 : Int) ≤ ln ∧ ln ≤ 3000 := e_ln ▸ hW.1 9
  have b_le : (0 : Int) ≤ le ∧ le ≤ 3000 := e_le ▸ hW.2 4 _
  have b_at0 : (0 : Int) ≤ at0 ∧ at0 ≤ 3002 := e_at0 ▸ hW.1 10
  have b_fk : (0 : Int) ≤ fk ∧ fk ≤ 6 := e_fk ▸ hW.1 16
  have b_op0 : (-2147483648 : Int) ≤ op0 ∧ op0 ≤ 2147483647 := e_op0 ▸ hW.1 15
  have b_nd : (0 : Int) ≤ nd ∧ nd ≤ 6999 := e_nd ▸ hW.1 31
  have z_tk0 := tz_f tk0
  have b_tk0 : (0 : Int) ≤ tk0 ∧ tk0 ≤ 5 := e_tk0 ▸ hW.1 11
  refine jx_ld (pc' := 1) (l' := [(0, .ref 66)]) (st' := [.ref 66]) rfl (jl_aloadn rfl) ?_
  refine jx_vr (pc' := 4) (as := []) (st := []) rfl rfl rfl rfl ⟨rfl, rfl, Nat.le_of_ble_eq_true rfl⟩ rfl rfl (c_bad (dd := d) (hd := by omega) (hW := hW)  (fk := fk) (e_fk := show G 16 = fk from (e_fk))    ) (fun o V' hq => ?_)
  obtain ⟨r1, rfl, rfl, b2, q3⟩ := hq
  refine .inr ⟨_, rfl, ?_⟩
  rcases q3 with ⟨rfl, a4⟩ | ⟨rfl, a5⟩
  · have _q : True := trivial
    refine jx_if_eq (pc' := 7) (tg := 9) rfl rfl rfl (by decide) (by decide) (fun h6 => ?_) (fun h6 => ?_)
    · have _q := h6
      exact absurd h6 (by omega)
    · have _q := h6
      refine jx_ar (pc' := 8) (st' := [.int (i32 (0))]) rfl rfl rfl rfl ?_
      refine jx_rt (v := some (.int (i32 (0)))) rfl rfl rfl rfl rfl rfl ?_
      have z7 := tz_f (tk0)
      exact ⟨_, _, _, at0, fk, op0, nd, tk0, ec, rfl, rfl, hW, hF0, hP0, by omega, (e_at0), (e_fk), (e_op0), (e_nd), (e_tk0), e_ec, by omega, by omega, by omega, by omega, by omega, by omega, by first | exact Or.inl (⟨by omega, by omega, by omega, by omega, by omega, by omega⟩)⟩
  · have _q : True := trivial
    refine jx_if_eq (pc' := 7) (tg := 9) rfl rfl rfl (by decide) (by decide) (fun h8 => ?_) (fun h8 => ?_)
    · have _q := h8
      refine jx_ld (pc' := 10) (l' := [(0, .ref 66)]) (st' := [.ref 66]) rfl (jl_aloadn rfl) ?_
      refine jx_ar (pc' := 12) (st' := [.int (i32 (45)), .ref 66]) rfl rfl rfl rfl ?_
      have b9 : (-2147483648 : Int) ≤ G 13 ∧ G 13 ≤ 2147483647 := hW.1 13
      refine jx_vr (pc' := 15) (as := [.int (i32 (45))]) (st := []) rfl rfl rfl rfl ⟨rfl, rfl, Nat.le_of_ble_eq_true rfl⟩ rfl rfl (c_is (dd := d) (hd := by omega) (hW := hW) (k := 45) (tk := tk0) (e_tk := show G 11 = tk0 from (e_tk0)) (tn := G 13) (e_tn := show G 13 = G 13 from rfl)  (h_k := ⟨(by decide), (by decide)⟩)  ) (fun o V' hq => ?_)
      obtain ⟨r10, rfl, rfl, b11, q12⟩ := hq
      refine .inr ⟨_, rfl, ?_⟩
      rcases q12 with ⟨rfl, a13, a14, a15⟩ | rfl
      · have _q : True := trivial
        refine jx_if_ne (pc' := 18) (tg := 27) rfl rfl rfl (by decide) (by decide) (fun h16 => ?_) (fun h16 => ?_)
        · have _q := h16
          refine jx_ld (pc' := 28) (l' := [(0, .ref 66)]) (st' := [.ref 66]) rfl (jl_aloadn rfl) ?_
          refine jx_ar (pc' := 30) (st' := [.int (i32 (45)), .ref 66]) rfl rfl rfl rfl ?_
          refine jx_vr (pc' := 33) (as := [.int (i32 (45))]) (st := []) rfl rfl rfl rfl ⟨rfl, rfl, Nat.le_of_ble_eq_true rfl⟩ rfl rfl (c_is (dd := d) (hd := by omega) (hW := hW) (k := 45) (tk := tk0) (e_tk := show G 11 = tk0 from (e_tk0)) (tn := G 13) (e_tn := show G 13 = G 13 from rfl)  (h_k := ⟨(by decide), (by decide)⟩)  ) (fun o V' hq => ?_)
          obtain ⟨r17, rfl, rfl, b18, q19⟩ := hq
          refine .inr ⟨_, rfl, ?_⟩
          rcases q19 with ⟨rfl, a20, a21, a22⟩ | rfl
          · have _q : True := trivial
            refine jx_if_eq (pc' := 36) (tg := 40) rfl rfl rfl (by decide) (by decide) (fun h23 => ?_) (fun h23 => ?_)
            · have _q := h23
              exact absurd h23 (by omega)
            · have _q := h23
              refine jx_ar (pc' := 37) (st' := [.int (i32 (5))]) rfl rfl rfl rfl ?_
              refine jx_go (tg := 42) rfl rfl ?_
              refine jx_ld (pc' := 43) (l' := jSto1 [(0, .ref 66)] 1 (.int (i32 (5)))) (st' := []) rfl rfl ?_
              obtain ⟨L24, eL24⟩ : ∃ q, q = jSto1 [(0, .ref 66)] 1 (.int (i32 (5))) := ⟨_, rfl⟩
              rw [← eL24]
              have gL24_0 : jGet L24 0 = some (.ref 66) := eL24 ▸ jg_ne (by decide) (rfl : jGet [(0, .ref 66)] 0 = some (.ref 66)) rfl
              have gL24_1 : jGet L24 1 = some (.int (i32 (5))) := eL24 ▸ jg_eq
              refine jx_ld (pc' := 44) (l' := L24) (st' := [.ref 66]) rfl (jl_aloadn gL24_0) ?_
              refine jx_vr (pc' := 47) (as := []) (st := []) rfl rfl rfl rfl ⟨rfl, rfl, Nat.le_of_ble_eq_true rfl⟩ rfl rfl (c_next (dd := d) (hd := by omega) (hW := hW)  (ln := ln) (e_ln := show G 9 = ln from (e_ln)) (le := le) (e_le := show A 4 (ln).toNat = le from (e_le)) (at0 := at0) (e_at0 := show G 10 = at0 from (e_at0))    (p_0 := by omega)) (fun o V' hq => ?_)
              obtain ⟨G25, A26, at2_27, tk2_28, rfl, rfl, hW29, hF30, e31, e32, p33, p34, p35, -⟩ := hq
              have hF37 := Fr_tr hF0 hF30 (Fr_sub (by decide)) (Fr_sub (by decide))
              have hP38 := Pf_f hP0 hF30 (by decide)
              have ec39 : ecn A26 (G25 31) = ec := (ecn_f (hF30.2 15 rfl) (hF30.1 31 rfl)).trans e_ec
              have bat2_27 : (0 : Int) ≤ at2_27 ∧ at2_27 ≤ 3002 := e31 ▸ hW29.1 10
              have ztk2_28 := tz_b tk2_28
              have btk2_28 : (0 : Int) ≤ tk2_28 ∧ tk2_28 ≤ 5 := e32 ▸ hW29.1 11
              refine .inl ⟨rfl, ?_⟩
              have pz40 : at0 + tz tk2_28 ≤ at2_27 := by omega
              refine jx_ld (pc' := 48) (l' := L24) (st' := [.ref 66]) rfl (jl_aloadn gL24_0) ?_
              refine jx_vr (pc' := 51) (as := []) (st := []) rfl rfl rfl rfl ⟨rfl, rfl, Nat.le_of_ble_eq_true rfl⟩ rfl rfl (c_readOperand_w (dd := d) (hE := hE) (hd := by omega) (hW := hW29)  (ln := ln) (e_ln := show G25 9 = ln from ((hF30.1 9 rfl).trans (e_ln))) (le := le) (e_le := show A26 4 (ln).toNat = le from (congrFun (hF30.2 4 rfl) _).trans (e_le)) (at0 := at2_27) (e_at0 := show G25 10 = at2_27 from (e31)) (fk := fk) (e_fk := show G25 16 = fk from ((hF30.1 16 rfl).trans (e_fk))) (op0 := op0) (e_op0 := show G25 15 = op0 from ((hF30.1 15 rfl).trans (e_op0))) (nd := nd) (e_nd := show G25 31 = nd from ((hF30.1 31 rfl).trans (e_nd))) (tk0 := tk2_28) (e_tk0 := show G25 11 = tk2_28 from (e32)) (ec := ec) (e_ec := show ecn A26 (G25 31) = ec from ec39) (i_SV := (SV_ext ((hF30.1 29 rfl)) ((hF30.2 14 rfl)) i_SV))   (p_0 := by omega) (p_1 := by omega) (p_2 := by omega) (p_3 := by omega) (p_4 := by omega) (p_5 := by omega)) (fun o V' hq => ?_)
              obtain ⟨G41, A42, r43, at2_44, fk2_45, op2_46, nd2_47, tk2_48, ec2_49, rfl, rfl, hW50, hF51, hQ52, b53, e54, e55, e56, e57, e58, e59, p60, p61, p62, p63, p64, p65, q66⟩ := hq
              have hF67 := Fr_tr hF37 hF51 (Fr_sub (by decide)) (Fr_sub (by decide))
              have hP68 := Pf_tr hP38 hQ52 (by omega)
              have bat2_44 : (0 : Int) ≤ at2_44 ∧ at2_44 ≤ 3002 := e54 ▸ hW50.1 10
              have bfk2_45 : (0 : Int) ≤ fk2_45 ∧ fk2_45 ≤ 6 := e55 ▸ hW50.1 16
              have bop2_46 : (-2147483648 : Int) ≤ op2_46 ∧ op2_46 ≤ 2147483647 := e56 ▸ hW50.1 15
              have bnd2_47 : (0 : Int) ≤ nd2_47 ∧ nd2_47 ≤ 6999 := e57 ▸ hW50.1 31
              have ztk2_48 := tz_b tk2_48
              have btk2_48 : (0 : Int) ≤ tk2_48 ∧ tk2_48 ≤ 5 := e58 ▸ hW50.1 11
              refine .inr ⟨_, rfl, ?_⟩
              rcases q66 with ⟨a69, a70, a71, a72, a73, a74⟩ | ⟨a75, a76, a77⟩ | ⟨a78, a79, a80, a81, a82, a83⟩
              · have _q : True := trivial
                exfalso
                omega
              · have _q : True := trivial
                refine jx_ld (pc' := 52) (l' := jSto1 L24 2 (.int (i32 (r43)))) (st' := []) rfl rfl ?_
                obtain ⟨L84, eL84⟩ : ∃ q, q = jSto1 L24 2 (.int (i32 (r43))) := ⟨_, rfl⟩
                rw [← eL84]
                have gL84_0 : jGet L84 0 = some (.ref 66) := eL84 ▸ jg_ne (by decide) gL24_0 rfl
                have gL84_1 : jGet L84 1 = some (.int (i32 (5))) := eL84 ▸ jg_ne (by decide) gL24_1 rfl
                have gL84_2 : jGet L84 2 = some (.int (i32 (r43))) := eL84 ▸ jg_eq
                refine jx_ld (pc' := 53) (l' := L84) (st' := [.ref 66]) rfl (jl_aloadn gL84_0) ?_
                refine jx_ld (pc' := 54) (l' := L84) (st' := [.int (i32 (5)), .ref 66]) rfl (jl_iloadn gL84_1) ?_
                refine jx_ld (pc' := 55) (l' := L84) (st' := [.int (i32 (r43)), .int (i32 (5)), .ref 66]) rfl (jl_iloadn gL84_2) ?_
                refine jx_ar (pc' := 56) (st' := [.int (i32 (0)), .int (i32 (r43)), .int (i32 (5)), .ref 66]) rfl rfl rfl rfl ?_
                refine jx_ar (pc' := 57) (st' := [.int (i32 (0)), .int (i32 (0)), .int (i32 (r43)), .int (i32 (5)), .ref 66]) rfl rfl rfl rfl ?_
                refine jx_ar (pc' := 58) (st' := [.int (i32 (0)), .int (i32 (0)), .int (i32 (0)), .int (i32 (r43)), .int (i32 (5)), .ref 66]) rfl rfl rfl rfl ?_
                refine jx_vr (pc' := 61) (as := [.int (i32 (5)), .int (i32 (r43)), .int (i32 (0)), .int (i32 (0)), .int (i32 (0))]) (st := []) rfl rfl rfl rfl ⟨rfl, rfl, Nat.le_of_ble_eq_true rfl⟩ rfl rfl (c_node_o (dd := d) (hd := by omega) (hW := hW50) (kind := 5) (a := r43) (b := 0) (c := 0) (e := 0) (nd := nd2_47) (e_nd := show G41 31 = nd2_47 from (e57)) (ec := ec2_49) (e_ec := show ecn A42 (G41 31) = ec2_49 from e59)  (h_kind := ⟨(by decide), (by decide)⟩) (h_a := ⟨(Int.le_trans (by decide : (-2147483648 : Int) ≤ -2147483648) b53.1), (Int.le_trans b53.2 (by decide : (2147483647 : Int) ≤ 2147483647))⟩) (h_b := ⟨(by decide), (by decide)⟩) (h_c := ⟨(by decide), (by decide)⟩) (h_e := ⟨(by decide), (by decide)⟩)  (p_0 := by omega) (p_1 := by omega) (p_2 := by omega)) (fun o V' hq => ?_)
                obtain ⟨G85, A86, nd2_87, ec2_88, rfl, rfl, hW89, hF90, hQ91, e92, e93, p94, p95, p96, -⟩ := hq
                have hF98 := Fr_tr hF67 hF90 (Fr_sub (by decide)) (Fr_sub (by decide))
                have hP99 := Pf_tr hP68 hQ91 (by omega)
                have bnd2_87 : (0 : Int) ≤ nd2_87 ∧ nd2_87 ≤ 6999 := e92 ▸ hW89.1 31
                refine .inr ⟨_, rfl, ?_⟩
                refine jx_rt (v := some (.int (i32 (nd2_47)))) rfl rfl rfl rfl rfl rfl ?_
                have z100 := tz_f (tk2_48)
                exact ⟨_, _, _, at2_44, fk2_45, op2_46, nd2_87, tk2_48, ec2_88, rfl, rfl, hW89, hF98, hP99, by omega, ((hF90.1 10 rfl).trans (e54)), ((hF90.1 16 rfl).trans (e55)), ((hF90.1 15 rfl).trans (e56)), (e92), ((hF90.1 11 rfl).trans (e58)), e93, by omega, by omega, by omega, by omega, by omega, by omega, by first | exact Or.inr (Or.inl (⟨by omega, by omega, by omega⟩))⟩
              · have _q : True := trivial
                refine jx_ld (pc' := 52) (l' := jSto1 L24 2 (.int (i32 (r43)))) (st' := []) rfl rfl ?_
                obtain ⟨L101, eL101⟩ : ∃ q, q = jSto1 L24 2 (.int (i32 (r43))) := ⟨_, rfl⟩
                rw [← eL101]
                have gL101_0 : jGet L101 0 = some (.ref 66) := eL101 ▸ jg_ne (by decide) gL24_0 rfl
                have gL101_1 : jGet L101 1 = some (.int (i32 (5))) := eL101 ▸ jg_ne (by decide) gL24_1 rfl
                have gL101_2 : jGet L101 2 = some (.int (i32 (r43))) := eL101 ▸ jg_eq
                refine jx_ld (pc' := 53) (l' := L101) (st' := [.ref 66]) rfl (jl_aloadn gL101_0) ?_
                refine jx_ld (pc' := 54) (l' := L101) (st' := [.int (i32 (5)), .ref 66]) rfl (jl_iloadn gL101_1) ?_
                refine jx_ld (pc' := 55) (l' := L101) (st' := [.int (i32 (r43)), .int (i32 (5)), .ref 66]) rfl (jl_iloadn gL101_2) ?_
                refine jx_ar (pc' := 56) (st' := [.int (i32 (0)), .int (i32 (r43)), .int (i32 (5)), .ref 66]) rfl rfl rfl rfl ?_
                refine jx_ar (pc' := 57) (st' := [.int (i32 (0)), .int (i32 (0)), .int (i32 (r43)), .int (i32 (5)), .ref 66]) rfl rfl rfl rfl ?_
                refine jx_ar (pc' := 58) (st' := [.int (i32 (0)), .int (i32 (0)), .int (i32 (0)), .int (i32 (r43)), .int (i32 (5)), .ref 66]) rfl rfl rfl rfl ?_
                refine jx_vr (pc' := 61) (as := [.int (i32 (5)), .int (i32 (r43)), .int (i32 (0)), .int (i32 (0)), .int (i32 (0))]) (st := []) rfl rfl rfl rfl ⟨rfl, rfl, Nat.le_of_ble_eq_true rfl⟩ rfl rfl (c_node_o (dd := d) (hd := by omega) (hW := hW50) (kind := 5) (a := r43) (b := 0) (c := 0) (e := 0) (nd := nd2_47) (e_nd := show G41 31 = nd2_47 from (e57)) (ec := ec2_49) (e_ec := show ecn A42 (G41 31) = ec2_49 from e59)  (h_kind := ⟨(by decide), (by decide)⟩) (h_a := ⟨(Int.le_trans (by decide : (-2147483648 : Int) ≤ -2147483648) b53.1), (Int.le_trans b53.2 (by decide : (2147483647 : Int) ≤ 2147483647))⟩) (h_b := ⟨(by decide), (by decide)⟩) (h_c := ⟨(by decide), (by decide)⟩) (h_e := ⟨(by decide), (by decide)⟩)  (p_0 := by omega) (p_1 := by omega) (p_2 := by omega)) (fun o V' hq => ?_)
                obtain ⟨G102, A103, nd2_104, ec2_105, rfl, rfl, hW106, hF107, hQ108, e109, e110, p111, p112, p113, -⟩ := hq
                have hF115 := Fr_tr hF67 hF107 (Fr_sub (by decide)) (Fr_sub (by decide))
                have hP116 := Pf_tr hP68 hQ108 (by omega)
                have sf117 : wE A103 Vs sb (2 * k + 3) (r43) (nd) (nd2_47) := wE_ag (by omega) (Sg_fr hF107 (by decide)) (Ag_pf hQ108 (by omega)) a81
                have bnd2_104 : (0 : Int) ≤ nd2_104 ∧ nd2_104 ≤ 6999 := e109 ▸ hW106.1 31
                refine .inr ⟨_, rfl, ?_⟩
                refine jx_rt (v := some (.int (i32 (nd2_47)))) rfl rfl rfl rfl rfl rfl ?_
                have z118 := tz_f (tk2_48)
                exact ⟨_, _, _, at2_44, fk2_45, op2_46, nd2_104, tk2_48, ec2_105, rfl, rfl, hW106, hF115, hP116, by omega, ((hF107.1 10 rfl).trans (e54)), ((hF107.1 16 rfl).trans (e55)), ((hF107.1 15 rfl).trans (e56)), (e109), ((hF107.1 11 rfl).trans (e58)), e110, by omega, by omega, by omega, by omega, by omega, by omega, by first | exact Or.inr (Or.inr ((⟨by omega, by omega, by omega, (wE_one p113 (by omega) (by omega) (by omega) (wE_mono (by omega) (by omega) (by omega) sf117)), by omega, by omega⟩)))⟩
          · have _q : True := trivial
            refine jx_if_eq (pc' := 36) (tg := 40) rfl rfl rfl (by decide) (by decide) (fun h119 => ?_) (fun h119 => ?_)
            · have _q := h119
              refine jx_ar (pc' := 42) (st' := [.int (i32 (6))]) rfl rfl rfl rfl ?_
              refine jx_ld (pc' := 43) (l' := jSto1 [(0, .ref 66)] 1 (.int (i32 (6)))) (st' := []) rfl rfl ?_
              obtain ⟨L120, eL120⟩ : ∃ q, q = jSto1 [(0, .ref 66)] 1 (.int (i32 (6))) := ⟨_, rfl⟩
              rw [← eL120]
              have gL120_0 : jGet L120 0 = some (.ref 66) := eL120 ▸ jg_ne (by decide) (rfl : jGet [(0, .ref 66)] 0 = some (.ref 66)) rfl
              have gL120_1 : jGet L120 1 = some (.int (i32 (6))) := eL120 ▸ jg_eq
              refine jx_ld (pc' := 44) (l' := L120) (st' := [.ref 66]) rfl (jl_aloadn gL120_0) ?_
              refine jx_vr (pc' := 47) (as := []) (st := []) rfl rfl rfl rfl ⟨rfl, rfl, Nat.le_of_ble_eq_true rfl⟩ rfl rfl (c_next (dd := d) (hd := by omega) (hW := hW)  (ln := ln) (e_ln := show G 9 = ln from (e_ln)) (le := le) (e_le := show A 4 (ln).toNat = le from (e_le)) (at0 := at0) (e_at0 := show G 10 = at0 from (e_at0))    (p_0 := by omega)) (fun o V' hq => ?_)
              obtain ⟨G121, A122, at2_123, tk2_124, rfl, rfl, hW125, hF126, e127, e128, p129, p130, p131, -⟩ := hq
              have hF133 := Fr_tr hF0 hF126 (Fr_sub (by decide)) (Fr_sub (by decide))
              have hP134 := Pf_f hP0 hF126 (by decide)
              have ec135 : ecn A122 (G121 31) = ec := (ecn_f (hF126.2 15 rfl) (hF126.1 31 rfl)).trans e_ec
              have bat2_123 : (0 : Int) ≤ at2_123 ∧ at2_123 ≤ 3002 := e127 ▸ hW125.1 10
              have ztk2_124 := tz_b tk2_124
              have btk2_124 : (0 : Int) ≤ tk2_124 ∧ tk2_124 ≤ 5 := e128 ▸ hW125.1 11
              refine .inl ⟨rfl, ?_⟩
              have pz136 : at0 + tz tk2_124 ≤ at2_123 := by omega
              refine jx_ld (pc' := 48) (l' := L120) (st' := [.ref 66]) rfl (jl_aloadn gL120_0) ?_
              refine jx_vr (pc' := 51) (as := []) (st := []) rfl rfl rfl rfl ⟨rfl, rfl, Nat.le_of_ble_eq_true rfl⟩ rfl rfl (c_readOperand_w (dd := d) (hE := hE) (hd := by omega) (hW := hW125)  (ln := ln) (e_ln := show G121 9 = ln from ((hF126.1 9 rfl).trans (e_ln))) (le := le) (e_le := show A122 4 (ln).toNat = le from (congrFun (hF126.2 4 rfl) _).trans (e_le)) (at0 := at2_123) (e_at0 := show G121 10 = at2_123 from (e127)) (fk := fk) (e_fk := show G121 16 = fk from ((hF126.1 16 rfl).trans (e_fk))) (op0 := op0) (e_op0 := show G121 15 = op0 from ((hF126.1 15 rfl).trans (e_op0))) (nd := nd) (e_nd := show G121 31 = nd from ((hF126.1 31 rfl).trans (e_nd))) (tk0 := tk2_124) (e_tk0 := show G121 11 = tk2_124 from (e128)) (ec := ec) (e_ec := show ecn A122 (G121 31) = ec from ec135) (i_SV := (SV_ext ((hF126.1 29 rfl)) ((hF126.2 14 rfl)) i_SV))   (p_0 := by omega) (p_1 := by omega) (p_2 := by omega) (p_3 := by omega) (p_4 := by omega) (p_5 := by omega)) (fun o V' hq => ?_)
              obtain ⟨G137, A138, r139, at2_140, fk2_141, op2_142, nd2_143, tk2_144, ec2_145, rfl, rfl, hW146, hF147, hQ148, b149, e150, e151, e152, e153, e154, e155, p156, p157, p158, p159, p160, p161, q162⟩ := hq
              have hF163 := Fr_tr hF133 hF147 (Fr_sub (by decide)) (Fr_sub (by decide))
              have hP164 := Pf_tr hP134 hQ148 (by omega)
              have bat2_140 : (0 : Int) ≤ at2_140 ∧ at2_140 ≤ 3002 := e150 ▸ hW146.1 10
              have bfk2_141 : (0 : Int) ≤ fk2_141 ∧ fk2_141 ≤ 6 := e151 ▸ hW146.1 16
              have bop2_142 : (-2147483648 : Int) ≤ op2_142 ∧ op2_142 ≤ 2147483647 := e152 ▸ hW146.1 15
              have bnd2_143 : (0 : Int) ≤ nd2_143 ∧ nd2_143 ≤ 6999 := e153 ▸ hW146.1 31
              have ztk2_144 := tz_b tk2_144
              have btk2_144 : (0 : Int) ≤ tk2_144 ∧ tk2_144 ≤ 5 := e154 ▸ hW146.1 11
              refine .inr ⟨_, rfl, ?_⟩
              rcases q162 with ⟨a165, a166, a167, a168, a169, a170⟩ | ⟨a171, a172, a173⟩ | ⟨a174, a175, a176, a177, a178, a179⟩
              · have _q : True := trivial
                exfalso
                omega
              · have _q : True := trivial
                refine jx_ld (pc' := 52) (l' := jSto1 L120 2 (.int (i32 (r139)))) (st' := []) rfl rfl ?_
                obtain ⟨L180, eL180⟩ : ∃ q, q = jSto1 L120 2 (.int (i32 (r139))) := ⟨_, rfl⟩
                rw [← eL180]
                have gL180_0 : jGet L180 0 = some (.ref 66) := eL180 ▸ jg_ne (by decide) gL120_0 rfl
                have gL180_1 : jGet L180 1 = some (.int (i32 (6))) := eL180 ▸ jg_ne (by decide) gL120_1 rfl
                have gL180_2 : jGet L180 2 = some (.int (i32 (r139))) := eL180 ▸ jg_eq
                refine jx_ld (pc' := 53) (l' := L180) (st' := [.ref 66]) rfl (jl_aloadn gL180_0) ?_
                refine jx_ld (pc' := 54) (l' := L180) (st' := [.int (i32 (6)), .ref 66]) rfl (jl_iloadn gL180_1) ?_
                refine jx_ld (pc' := 55) (l' := L180) (st' := [.int (i32 (r139)), .int (i32 (6)), .ref 66]) rfl (jl_iloadn gL180_2) ?_
                refine jx_ar (pc' := 56) (st' := [.int (i32 (0)), .int (i32 (r139)), .int (i32 (6)), .ref 66]) rfl rfl rfl rfl ?_
                refine jx_ar (pc' := 57) (st' := [.int (i32 (0)), .int (i32 (0)), .int (i32 (r139)), .int (i32 (6)), .ref 66]) rfl rfl rfl rfl ?_
                refine jx_ar (pc' := 58) (st' := [.int (i32 (0)), .int (i32 (0)), .int (i32 (0)), .int (i32 (r139)), .int (i32 (6)), .ref 66]) rfl rfl rfl rfl ?_
                refine jx_vr (pc' := 61) (as := [.int (i32 (6)), .int (i32 (r139)), .int (i32 (0)), .int (i32 (0)), .int (i32 (0))]) (st := []) rfl rfl rfl rfl ⟨rfl, rfl, Nat.le_of_ble_eq_true rfl⟩ rfl rfl (c_node_o (dd := d) (hd := by omega) (hW := hW146) (kind := 6) (a := r139) (b := 0) (c := 0) (e := 0) (nd := nd2_143) (e_nd := show G137 31 = nd2_143 from (e153)) (ec := ec2_145) (e_ec := show ecn A138 (G137 31) = ec2_145 from e155)  (h_kind := ⟨(by decide), (by decide)⟩) (h_a := ⟨(Int.le_trans (by decide : (-2147483648 : Int) ≤ -2147483648) b149.1), (Int.le_trans b149.2 (by decide : (2147483647 : Int) ≤ 2147483647))⟩) (h_b := ⟨(by decide), (by decide)⟩) (h_c := ⟨(by decide), (by decide)⟩) (h_e := ⟨(by decide), (by decide)⟩)  (p_0 := by omega) (p_1 := by omega) (p_2 := by omega)) (fun o V' hq => ?_)
                obtain ⟨G181, A182, nd2_183, ec2_184, rfl, rfl, hW185, hF186, hQ187, e188, e189, p190, p191, p192, -⟩ := hq
                have hF194 := Fr_tr hF163 hF186 (Fr_sub (by decide)) (Fr_sub (by decide))
                have hP195 := Pf_tr hP164 hQ187 (by omega)
                have bnd2_183 : (0 : Int) ≤ nd2_183 ∧ nd2_183 ≤ 6999 := e188 ▸ hW185.1 31
                refine .inr ⟨_, rfl, ?_⟩
                refine jx_rt (v := some (.int (i32 (nd2_143)))) rfl rfl rfl rfl rfl rfl ?_
                have z196 := tz_f (tk2_144)
                exact ⟨_, _, _, at2_140, fk2_141, op2_142, nd2_183, tk2_144, ec2_184, rfl, rfl, hW185, hF194, hP195, by omega, ((hF186.1 10 rfl).trans (e150)), ((hF186.1 16 rfl).trans (e151)), ((hF186.1 15 rfl).trans (e152)), (e188), ((hF186.1 11 rfl).trans (e154)), e189, by omega, by omega, by omega, by omega, by omega, by omega, by first | exact Or.inr (Or.inl (⟨by omega, by omega, by omega⟩))⟩
              · have _q : True := trivial
                refine jx_ld (pc' := 52) (l' := jSto1 L120 2 (.int (i32 (r139)))) (st' := []) rfl rfl ?_
                obtain ⟨L197, eL197⟩ : ∃ q, q = jSto1 L120 2 (.int (i32 (r139))) := ⟨_, rfl⟩
                rw [← eL197]
                have gL197_0 : jGet L197 0 = some (.ref 66) := eL197 ▸ jg_ne (by decide) gL120_0 rfl
                have gL197_1 : jGet L197 1 = some (.int (i32 (6))) := eL197 ▸ jg_ne (by decide) gL120_1 rfl
                have gL197_2 : jGet L197 2 = some (.int (i32 (r139))) := eL197 ▸ jg_eq
                refine jx_ld (pc' := 53) (l' := L197) (st' := [.ref 66]) rfl (jl_aloadn gL197_0) ?_
                refine jx_ld (pc' := 54) (l' := L197) (st' := [.int (i32 (6)), .ref 66]) rfl (jl_iloadn gL197_1) ?_
                refine jx_ld (pc' := 55) (l' := L197) (st' := [.int (i32 (r139)), .int (i32 (6)), .ref 66]) rfl (jl_iloadn gL197_2) ?_
                refine jx_ar (pc' := 56) (st' := [.int (i32 (0)), .int (i32 (r139)), .int (i32 (6)), .ref 66]) rfl rfl rfl rfl ?_
                refine jx_ar (pc' := 57) (st' := [.int (i32 (0)), .int (i32 (0)), .int (i32 (r139)), .int (i32 (6)), .ref 66]) rfl rfl rfl rfl ?_
                refine jx_ar (pc' := 58) (st' := [.int (i32 (0)), .int (i32 (0)), .int (i32 (0)), .int (i32 (r139)), .int (i32 (6)), .ref 66]) rfl rfl rfl rfl ?_
                refine jx_vr (pc' := 61) (as := [.int (i32 (6)), .int (i32 (r139)), .int (i32 (0)), .int (i32 (0)), .int (i32 (0))]) (st := []) rfl rfl rfl rfl ⟨rfl, rfl, Nat.le_of_ble_eq_true rfl⟩ rfl rfl (c_node_o (dd := d) (hd := by omega) (hW := hW146) (kind := 6) (a := r139) (b := 0) (c := 0) (e := 0) (nd := nd2_143) (e_nd := show G137 31 = nd2_143 from (e153)) (ec := ec2_145) (e_ec := show ecn A138 (G137 31) = ec2_145 from e155)  (h_kind := ⟨(by decide), (by decide)⟩) (h_a := ⟨(Int.le_trans (by decide : (-2147483648 : Int) ≤ -2147483648) b149.1), (Int.le_trans b149.2 (by decide : (2147483647 : Int) ≤ 2147483647))⟩) (h_b := ⟨(by decide), (by decide)⟩) (h_c := ⟨(by decide), (by decide)⟩) (h_e := ⟨(by decide), (by decide)⟩)  (p_0 := by omega) (p_1 := by omega) (p_2 := by omega)) (fun o V' hq => ?_)
                obtain ⟨G198, A199, nd2_200, ec2_201, rfl, rfl, hW202, hF203, hQ204, e205, e206, p207, p208, p209, -⟩ := hq
                have hF211 := Fr_tr hF163 hF203 (Fr_sub (by decide)) (Fr_sub (by decide))
                have hP212 := Pf_tr hP164 hQ204 (by omega)
                have sf213 : wE A199 Vs sb (2 * k + 3) (r139) (nd) (nd2_143) := wE_ag (by omega) (Sg_fr hF203 (by decide)) (Ag_pf hQ204 (by omega)) a177
                have bnd2_200 : (0 : Int) ≤ nd2_200 ∧ nd2_200 ≤ 6999 := e205 ▸ hW202.1 31
                refine .inr ⟨_, rfl, ?_⟩
                refine jx_rt (v := some (.int (i32 (nd2_143)))) rfl rfl rfl rfl rfl rfl ?_
                have z214 := tz_f (tk2_144)
                exact ⟨_, _, _, at2_140, fk2_141, op2_142, nd2_200, tk2_144, ec2_201, rfl, rfl, hW202, hF211, hP212, by omega, ((hF203.1 10 rfl).trans (e150)), ((hF203.1 16 rfl).trans (e151)), ((hF203.1 15 rfl).trans (e152)), (e205), ((hF203.1 11 rfl).trans (e154)), e206, by omega, by omega, by omega, by omega, by omega, by omega, by first | exact Or.inr (Or.inr ((⟨by omega, by omega, by omega, (wE_one p209 (by omega) (by omega) (by omega) (wE_mono (by omega) (by omega) (by omega) sf213)), by omega, by omega⟩)))⟩
            · have _q := h119
              exact absurd h119 (by omega)
        · have _q := h16
          exact absurd h16 (by omega)
      · have _q : True := trivial
        refine jx_if_ne (pc' := 18) (tg := 27) rfl rfl rfl (by decide) (by decide) (fun h215 => ?_) (fun h215 => ?_)
        · have _q := h215
          exact absurd h215 (by omega)
        · have _q := h215
          refine jx_ld (pc' := 19) (l' := [(0, .ref 66)]) (st' := [.ref 66]) rfl (jl_aloadn rfl) ?_
          refine jx_ar (pc' := 21) (st' := [.int (i32 (16)), .ref 66]) rfl rfl rfl rfl ?_
          refine jx_vr (pc' := 24) (as := [.int (i32 (16))]) (st := []) rfl rfl rfl rfl ⟨rfl, rfl, Nat.le_of_ble_eq_true rfl⟩ rfl rfl (c_isKey (dd := d) (hd := by omega) (hW := hW) (k := 16) (tk := tk0) (e_tk := show G 11 = tk0 from (e_tk0)) (tn := G 13) (e_tn := show G 13 = G 13 from rfl)  (h_k := ⟨(by decide), (by decide)⟩)  ) (fun o V' hq => ?_)
          obtain ⟨r216, rfl, rfl, b217, q218⟩ := hq
          refine .inr ⟨_, rfl, ?_⟩
          rcases q218 with ⟨rfl, a219, a220, a221⟩ | rfl
          · have _q : True := trivial
            refine jx_if_eq (pc' := 27) (tg := 62) rfl rfl rfl (by decide) (by decide) (fun h222 => ?_) (fun h222 => ?_)
            · have _q := h222
              exact absurd h222 (by omega)
            · have _q := h222
              refine jx_ld (pc' := 28) (l' := [(0, .ref 66)]) (st' := [.ref 66]) rfl (jl_aloadn rfl) ?_
              refine jx_ar (pc' := 30) (st' := [.int (i32 (45)), .ref 66]) rfl rfl rfl rfl ?_
              refine jx_vr (pc' := 33) (as := [.int (i32 (45))]) (st := []) rfl rfl rfl rfl ⟨rfl, rfl, Nat.le_of_ble_eq_true rfl⟩ rfl rfl (c_is (dd := d) (hd := by omega) (hW := hW) (k := 45) (tk := tk0) (e_tk := show G 11 = tk0 from (e_tk0)) (tn := G 13) (e_tn := show G 13 = G 13 from rfl)  (h_k := ⟨(by decide), (by decide)⟩)  ) (fun o V' hq => ?_)
              obtain ⟨r223, rfl, rfl, b224, q225⟩ := hq
              refine .inr ⟨_, rfl, ?_⟩
              rcases q225 with ⟨rfl, a226, a227, a228⟩ | rfl
              · have _q : True := trivial
                refine jx_if_eq (pc' := 36) (tg := 40) rfl rfl rfl (by decide) (by decide) (fun h229 => ?_) (fun h229 => ?_)
                · have _q := h229
                  exact absurd h229 (by omega)
                · have _q := h229
                  refine jx_ar (pc' := 37) (st' := [.int (i32 (5))]) rfl rfl rfl rfl ?_
                  refine jx_go (tg := 42) rfl rfl ?_
                  refine jx_ld (pc' := 43) (l' := jSto1 [(0, .ref 66)] 1 (.int (i32 (5)))) (st' := []) rfl rfl ?_
                  obtain ⟨L230, eL230⟩ : ∃ q, q = jSto1 [(0, .ref 66)] 1 (.int (i32 (5))) := ⟨_, rfl⟩
                  rw [← eL230]
                  have gL230_0 : jGet L230 0 = some (.ref 66) := eL230 ▸ jg_ne (by decide) (rfl : jGet [(0, .ref 66)] 0 = some (.ref 66)) rfl
                  have gL230_1 : jGet L230 1 = some (.int (i32 (5))) := eL230 ▸ jg_eq
                  refine jx_ld (pc' := 44) (l' := L230) (st' := [.ref 66]) rfl (jl_aloadn gL230_0) ?_
                  refine jx_vr (pc' := 47) (as := []) (st := []) rfl rfl rfl rfl ⟨rfl, rfl, Nat.le_of_ble_eq_true rfl⟩ rfl rfl (c_next (dd := d) (hd := by omega) (hW := hW)  (ln := ln) (e_ln := show G 9 = ln from (e_ln)) (le := le) (e_le := show A 4 (ln).toNat = le from (e_le)) (at0 := at0) (e_at0 := show G 10 = at0 from (e_at0))    (p_0 := by omega)) (fun o V' hq => ?_)
                  obtain ⟨G231, A232, at2_233, tk2_234, rfl, rfl, hW235, hF236, e237, e238, p239, p240, p241, -⟩ := hq
                  have hF243 := Fr_tr hF0 hF236 (Fr_sub (by decide)) (Fr_sub (by decide))
                  have hP244 := Pf_f hP0 hF236 (by decide)
                  have ec245 : ecn A232 (G231 31) = ec := (ecn_f (hF236.2 15 rfl) (hF236.1 31 rfl)).trans e_ec
                  have bat2_233 : (0 : Int) ≤ at2_233 ∧ at2_233 ≤ 3002 := e237 ▸ hW235.1 10
                  have ztk2_234 := tz_b tk2_234
                  have btk2_234 : (0 : Int) ≤ tk2_234 ∧ tk2_234 ≤ 5 := e238 ▸ hW235.1 11
                  refine .inl ⟨rfl, ?_⟩
                  have pz246 : at0 + tz tk2_234 ≤ at2_233 := by omega
                  refine jx_ld (pc' := 48) (l' := L230) (st' := [.ref 66]) rfl (jl_aloadn gL230_0) ?_
                  refine jx_vr (pc' := 51) (as := []) (st := []) rfl rfl rfl rfl ⟨rfl, rfl, Nat.le_of_ble_eq_true rfl⟩ rfl rfl (c_readOperand_w (dd := d) (hE := hE) (hd := by omega) (hW := hW235)  (ln := ln) (e_ln := show G231 9 = ln from ((hF236.1 9 rfl).trans (e_ln))) (le := le) (e_le := show A232 4 (ln).toNat = le from (congrFun (hF236.2 4 rfl) _).trans (e_le)) (at0 := at2_233) (e_at0 := show G231 10 = at2_233 from (e237)) (fk := fk) (e_fk := show G231 16 = fk from ((hF236.1 16 rfl).trans (e_fk))) (op0 := op0) (e_op0 := show G231 15 = op0 from ((hF236.1 15 rfl).trans (e_op0))) (nd := nd) (e_nd := show G231 31 = nd from ((hF236.1 31 rfl).trans (e_nd))) (tk0 := tk2_234) (e_tk0 := show G231 11 = tk2_234 from (e238)) (ec := ec) (e_ec := show ecn A232 (G231 31) = ec from ec245) (i_SV := (SV_ext ((hF236.1 29 rfl)) ((hF236.2 14 rfl)) i_SV))   (p_0 := by omega) (p_1 := by omega) (p_2 := by omega) (p_3 := by omega) (p_4 := by omega) (p_5 := by omega)) (fun o V' hq => ?_)
                  obtain ⟨G247, A248, r249, at2_250, fk2_251, op2_252, nd2_253, tk2_254, ec2_255, rfl, rfl, hW256, hF257, hQ258, b259, e260, e261, e262, e263, e264, e265, p266, p267, p268, p269, p270, p271, q272⟩ := hq
                  have hF273 := Fr_tr hF243 hF257 (Fr_sub (by decide)) (Fr_sub (by decide))
                  have hP274 := Pf_tr hP244 hQ258 (by omega)
                  have bat2_250 : (0 : Int) ≤ at2_250 ∧ at2_250 ≤ 3002 := e260 ▸ hW256.1 10
                  have bfk2_251 : (0 : Int) ≤ fk2_251 ∧ fk2_251 ≤ 6 := e261 ▸ hW256.1 16
                  have bop2_252 : (-2147483648 : Int) ≤ op2_252 ∧ op2_252 ≤ 2147483647 := e262 ▸ hW256.1 15
                  have bnd2_253 : (0 : Int) ≤ nd2_253 ∧ nd2_253 ≤ 6999 := e263 ▸ hW256.1 31
                  have ztk2_254 := tz_b tk2_254
                  have btk2_254 : (0 : Int) ≤ tk2_254 ∧ tk2_254 ≤ 5 := e264 ▸ hW256.1 11
                  refine .inr ⟨_, rfl, ?_⟩
                  rcases q272 with ⟨a275, a276, a277, a278, a279, a280⟩ | ⟨a281, a282, a283⟩ | ⟨a284, a285, a286, a287, a288, a289⟩
                  · have _q : True := trivial
                    exfalso
                    omega
                  · have _q : True := trivial
                    refine jx_ld (pc' := 52) (l' := jSto1 L230 2 (.int (i32 (r249)))) (st' := []) rfl rfl ?_
                    obtain ⟨L290, eL290⟩ : ∃ q, q = jSto1 L230 2 (.int (i32 (r249))) := ⟨_, rfl⟩
                    rw [← eL290]
                    have gL290_0 : jGet L290 0 = some (.ref 66) := eL290 ▸ jg_ne (by decide) gL230_0 rfl
                    have gL290_1 : jGet L290 1 = some (.int (i32 (5))) := eL290 ▸ jg_ne (by decide) gL230_1 rfl
                    have gL290_2 : jGet L290 2 = some (.int (i32 (r249))) := eL290 ▸ jg_eq
                    refine jx_ld (pc' := 53) (l' := L290) (st' := [.ref 66]) rfl (jl_aloadn gL290_0) ?_
                    refine jx_ld (pc' := 54) (l' := L290) (st' := [.int (i32 (5)), .ref 66]) rfl (jl_iloadn gL290_1) ?_
                    refine jx_ld (pc' := 55) (l' := L290) (st' := [.int (i32 (r249)), .int (i32 (5)), .ref 66]) rfl (jl_iloadn gL290_2) ?_
                    refine jx_ar (pc' := 56) (st' := [.int (i32 (0)), .int (i32 (r249)), .int (i32 (5)), .ref 66]) rfl rfl rfl rfl ?_
                    refine jx_ar (pc' := 57) (st' := [.int (i32 (0)), .int (i32 (0)), .int (i32 (r249)), .int (i32 (5)), .ref 66]) rfl rfl rfl rfl ?_
                    refine jx_ar (pc' := 58) (st' := [.int (i32 (0)), .int (i32 (0)), .int (i32 (0)), .int (i32 (r249)), .int (i32 (5)), .ref 66]) rfl rfl rfl rfl ?_
                    refine jx_vr (pc' := 61) (as := [.int (i32 (5)), .int (i32 (r249)), .int (i32 (0)), .int (i32 (0)), .int (i32 (0))]) (st := []) rfl rfl rfl rfl ⟨rfl, rfl, Nat.le_of_ble_eq_true rfl⟩ rfl rfl (c_node_o (dd := d) (hd := by omega) (hW := hW256) (kind := 5) (a := r249) (b := 0) (c := 0) (e := 0) (nd := nd2_253) (e_nd := show G247 31 = nd2_253 from (e263)) (ec := ec2_255) (e_ec := show ecn A248 (G247 31) = ec2_255 from e265)  (h_kind := ⟨(by decide), (by decide)⟩) (h_a := ⟨(Int.le_trans (by decide : (-2147483648 : Int) ≤ -2147483648) b259.1), (Int.le_trans b259.2 (by decide : (2147483647 : Int) ≤ 2147483647))⟩) (h_b := ⟨(by decide), (by decide)⟩) (h_c := ⟨(by decide), (by decide)⟩) (h_e := ⟨(by decide), (by decide)⟩)  (p_0 := by omega) (p_1 := by omega) (p_2 := by omega)) (fun o V' hq => ?_)
                    obtain ⟨G291, A292, nd2_293, ec2_294, rfl, rfl, hW295, hF296, hQ297, e298, e299, p300, p301, p302, -⟩ := hq
                    have hF304 := Fr_tr hF273 hF296 (Fr_sub (by decide)) (Fr_sub (by decide))
                    have hP305 := Pf_tr hP274 hQ297 (by omega)
                    have bnd2_293 : (0 : Int) ≤ nd2_293 ∧ nd2_293 ≤ 6999 := e298 ▸ hW295.1 31
                    refine .inr ⟨_, rfl, ?_⟩
                    refine jx_rt (v := some (.int (i32 (nd2_253)))) rfl rfl rfl rfl rfl rfl ?_
                    have z306 := tz_f (tk2_254)
                    exact ⟨_, _, _, at2_250, fk2_251, op2_252, nd2_293, tk2_254, ec2_294, rfl, rfl, hW295, hF304, hP305, by omega, ((hF296.1 10 rfl).trans (e260)), ((hF296.1 16 rfl).trans (e261)), ((hF296.1 15 rfl).trans (e262)), (e298), ((hF296.1 11 rfl).trans (e264)), e299, by omega, by omega, by omega, by omega, by omega, by omega, by first | exact Or.inr (Or.inl (⟨by omega, by omega, by omega⟩))⟩
                  · have _q : True := trivial
                    refine jx_ld (pc' := 52) (l' := jSto1 L230 2 (.int (i32 (r249)))) (st' := []) rfl rfl ?_
                    obtain ⟨L307, eL307⟩ : ∃ q, q = jSto1 L230 2 (.int (i32 (r249))) := ⟨_, rfl⟩
                    rw [← eL307]
                    have gL307_0 : jGet L307 0 = some (.ref 66) := eL307 ▸ jg_ne (by decide) gL230_0 rfl
                    have gL307_1 : jGet L307 1 = some (.int (i32 (5))) := eL307 ▸ jg_ne (by decide) gL230_1 rfl
                    have gL307_2 : jGet L307 2 = some (.int (i32 (r249))) := eL307 ▸ jg_eq
                    refine jx_ld (pc' := 53) (l' := L307) (st' := [.ref 66]) rfl (jl_aloadn gL307_0) ?_
                    refine jx_ld (pc' := 54) (l' := L307) (st' := [.int (i32 (5)), .ref 66]) rfl (jl_iloadn gL307_1) ?_
                    refine jx_ld (pc' := 55) (l' := L307) (st' := [.int (i32 (r249)), .int (i32 (5)), .ref 66]) rfl (jl_iloadn gL307_2) ?_
                    refine jx_ar (pc' := 56) (st' := [.int (i32 (0)), .int (i32 (r249)), .int (i32 (5)), .ref 66]) rfl rfl rfl rfl ?_
                    refine jx_ar (pc' := 57) (st' := [.int (i32 (0)), .int (i32 (0)), .int (i32 (r249)), .int (i32 (5)), .ref 66]) rfl rfl rfl rfl ?_
                    refine jx_ar (pc' := 58) (st' := [.int (i32 (0)), .int (i32 (0)), .int (i32 (0)), .int (i32 (r249)), .int (i32 (5)), .ref 66]) rfl rfl rfl rfl ?_
                    refine jx_vr (pc' := 61) (as := [.int (i32 (5)), .int (i32 (r249)), .int (i32 (0)), .int (i32 (0)), .int (i32 (0))]) (st := []) rfl rfl rfl rfl ⟨rfl, rfl, Nat.le_of_ble_eq_true rfl⟩ rfl rfl (c_node_o (dd := d) (hd := by omega) (hW := hW256) (kind := 5) (a := r249) (b := 0) (c := 0) (e := 0) (nd := nd2_253) (e_nd := show G247 31 = nd2_253 from (e263)) (ec := ec2_255) (e_ec := show ecn A248 (G247 31) = ec2_255 from e265)  (h_kind := ⟨(by decide), (by decide)⟩) (h_a := ⟨(Int.le_trans (by decide : (-2147483648 : Int) ≤ -2147483648) b259.1), (Int.le_trans b259.2 (by decide : (2147483647 : Int) ≤ 2147483647))⟩) (h_b := ⟨(by decide), (by decide)⟩) (h_c := ⟨(by decide), (by decide)⟩) (h_e := ⟨(by decide), (by decide)⟩)  (p_0 := by omega) (p_1 := by omega) (p_2 := by omega)) (fun o V' hq => ?_)
                    obtain ⟨G308, A309, nd2_310, ec2_311, rfl, rfl, hW312, hF313, hQ314, e315, e316, p317, p318, p319, -⟩ := hq
                    have hF321 := Fr_tr hF273 hF313 (Fr_sub (by decide)) (Fr_sub (by decide))
                    have hP322 := Pf_tr hP274 hQ314 (by omega)
                    have sf323 : wE A309 Vs sb (2 * k + 3) (r249) (nd) (nd2_253) := wE_ag (by omega) (Sg_fr hF313 (by decide)) (Ag_pf hQ314 (by omega)) a287
                    have bnd2_310 : (0 : Int) ≤ nd2_310 ∧ nd2_310 ≤ 6999 := e315 ▸ hW312.1 31
                    refine .inr ⟨_, rfl, ?_⟩
                    refine jx_rt (v := some (.int (i32 (nd2_253)))) rfl rfl rfl rfl rfl rfl ?_
                    have z324 := tz_f (tk2_254)
                    exact ⟨_, _, _, at2_250, fk2_251, op2_252, nd2_310, tk2_254, ec2_311, rfl, rfl, hW312, hF321, hP322, by omega, ((hF313.1 10 rfl).trans (e260)), ((hF313.1 16 rfl).trans (e261)), ((hF313.1 15 rfl).trans (e262)), (e315), ((hF313.1 11 rfl).trans (e264)), e316, by omega, by omega, by omega, by omega, by omega, by omega, by first | exact Or.inr (Or.inr ((⟨by omega, by omega, by omega, (wE_one p319 (by omega) (by omega) (by omega) (wE_mono (by omega) (by omega) (by omega) sf323)), by omega, by omega⟩)))⟩
              · have _q : True := trivial
                refine jx_if_eq (pc' := 36) (tg := 40) rfl rfl rfl (by decide) (by decide) (fun h325 => ?_) (fun h325 => ?_)
                · have _q := h325
                  refine jx_ar (pc' := 42) (st' := [.int (i32 (6))]) rfl rfl rfl rfl ?_
                  refine jx_ld (pc' := 43) (l' := jSto1 [(0, .ref 66)] 1 (.int (i32 (6)))) (st' := []) rfl rfl ?_
                  obtain ⟨L326, eL326⟩ : ∃ q, q = jSto1 [(0, .ref 66)] 1 (.int (i32 (6))) := ⟨_, rfl⟩
                  rw [← eL326]
                  have gL326_0 : jGet L326 0 = some (.ref 66) := eL326 ▸ jg_ne (by decide) (rfl : jGet [(0, .ref 66)] 0 = some (.ref 66)) rfl
                  have gL326_1 : jGet L326 1 = some (.int (i32 (6))) := eL326 ▸ jg_eq
                  refine jx_ld (pc' := 44) (l' := L326) (st' := [.ref 66]) rfl (jl_aloadn gL326_0) ?_
                  refine jx_vr (pc' := 47) (as := []) (st := []) rfl rfl rfl rfl ⟨rfl, rfl, Nat.le_of_ble_eq_true rfl⟩ rfl rfl (c_next (dd := d) (hd := by omega) (hW := hW)  (ln := ln) (e_ln := show G 9 = ln from (e_ln)) (le := le) (e_le := show A 4 (ln).toNat = le from (e_le)) (at0 := at0) (e_at0 := show G 10 = at0 from (e_at0))    (p_0 := by omega)) (fun o V' hq => ?_)
                  obtain ⟨G327, A328, at2_329, tk2_330, rfl, rfl, hW331, hF332, e333, e334, p335, p336, p337, -⟩ := hq
                  have hF339 := Fr_tr hF0 hF332 (Fr_sub (by decide)) (Fr_sub (by decide))
                  have hP340 := Pf_f hP0 hF332 (by decide)
                  have ec341 : ecn A328 (G327 31) = ec := (ecn_f (hF332.2 15 rfl) (hF332.1 31 rfl)).trans e_ec
                  have bat2_329 : (0 : Int) ≤ at2_329 ∧ at2_329 ≤ 3002 := e333 ▸ hW331.1 10
                  have ztk2_330 := tz_b tk2_330
                  have btk2_330 : (0 : Int) ≤ tk2_330 ∧ tk2_330 ≤ 5 := e334 ▸ hW331.1 11
                  refine .inl ⟨rfl, ?_⟩
                  have pz342 : at0 + tz tk2_330 ≤ at2_329 := by omega
                  refine jx_ld (pc' := 48) (l' := L326) (st' := [.ref 66]) rfl (jl_aloadn gL326_0) ?_
                  refine jx_vr (pc' := 51) (as := []) (st := []) rfl rfl rfl rfl ⟨rfl, rfl, Nat.le_of_ble_eq_true rfl⟩ rfl rfl (c_readOperand_w (dd := d) (hE := hE) (hd := by omega) (hW := hW331)  (ln := ln) (e_ln := show G327 9 = ln from ((hF332.1 9 rfl).trans (e_ln))) (le := le) (e_le := show A328 4 (ln).toNat = le from (congrFun (hF332.2 4 rfl) _).trans (e_le)) (at0 := at2_329) (e_at0 := show G327 10 = at2_329 from (e333)) (fk := fk) (e_fk := show G327 16 = fk from ((hF332.1 16 rfl).trans (e_fk))) (op0 := op0) (e_op0 := show G327 15 = op0 from ((hF332.1 15 rfl).trans (e_op0))) (nd := nd) (e_nd := show G327 31 = nd from ((hF332.1 31 rfl).trans (e_nd))) (tk0 := tk2_330) (e_tk0 := show G327 11 = tk2_330 from (e334)) (ec := ec) (e_ec := show ecn A328 (G327 31) = ec from ec341) (i_SV := (SV_ext ((hF332.1 29 rfl)) ((hF332.2 14 rfl)) i_SV))   (p_0 := by omega) (p_1 := by omega) (p_2 := by omega) (p_3 := by omega) (p_4 := by omega) (p_5 := by omega)) (fun o V' hq => ?_)
                  obtain ⟨G343, A344, r345, at2_346, fk2_347, op2_348, nd2_349, tk2_350, ec2_351, rfl, rfl, hW352, hF353, hQ354, b355, e356, e357, e358, e359, e360, e361, p362, p363, p364, p365, p366, p367, q368⟩ := hq
                  have hF369 := Fr_tr hF339 hF353 (Fr_sub (by decide)) (Fr_sub (by decide))
                  have hP370 := Pf_tr hP340 hQ354 (by omega)
                  have bat2_346 : (0 : Int) ≤ at2_346 ∧ at2_346 ≤ 3002 := e356 ▸ hW352.1 10
                  have bfk2_347 : (0 : Int) ≤ fk2_347 ∧ fk2_347 ≤ 6 := e357 ▸ hW352.1 16
                  have bop2_348 : (-2147483648 : Int) ≤ op2_348 ∧ op2_348 ≤ 2147483647 := e358 ▸ hW352.1 15
                  have bnd2_349 : (0 : Int) ≤ nd2_349 ∧ nd2_349 ≤ 6999 := e359 ▸ hW352.1 31
                  have ztk2_350 := tz_b tk2_350
                  have btk2_350 : (0 : Int) ≤ tk2_350 ∧ tk2_350 ≤ 5 := e360 ▸ hW352.1 11
                  refine .inr ⟨_, rfl, ?_⟩
                  rcases q368 with ⟨a371, a372, a373, a374, a375, a376⟩ | ⟨a377, a378, a379⟩ | ⟨a380, a381, a382, a383, a384, a385⟩
                  · have _q : True := trivial
                    exfalso
                    omega
                  · have _q : True := trivial
                    refine jx_ld (pc' := 52) (l' := jSto1 L326 2 (.int (i32 (r345)))) (st' := []) rfl rfl ?_
                    obtain ⟨L386, eL386⟩ : ∃ q, q = jSto1 L326 2 (.int (i32 (r345))) := ⟨_, rfl⟩
                    rw [← eL386]
                    have gL386_0 : jGet L386 0 = some (.ref 66) := eL386 ▸ jg_ne (by decide) gL326_0 rfl
                    have gL386_1 : jGet L386 1 = some (.int (i32 (6))) := eL386 ▸ jg_ne (by decide) gL326_1 rfl
                    have gL386_2 : jGet L386 2 = some (.int (i32 (r345))) := eL386 ▸ jg_eq
                    refine jx_ld (pc' := 53) (l' := L386) (st' := [.ref 66]) rfl (jl_aloadn gL386_0) ?_
                    refine jx_ld (pc' := 54) (l' := L386) (st' := [.int (i32 (6)), .ref 66]) rfl (jl_iloadn gL386_1) ?_
                    refine jx_ld (pc' := 55) (l' := L386) (st' := [.int (i32 (r345)), .int (i32 (6)), .ref 66]) rfl (jl_iloadn gL386_2) ?_
                    refine jx_ar (pc' := 56) (st' := [.int (i32 (0)), .int (i32 (r345)), .int (i32 (6)), .ref 66]) rfl rfl rfl rfl ?_
                    refine jx_ar (pc' := 57) (st' := [.int (i32 (0)), .int (i32 (0)), .int (i32 (r345)), .int (i32 (6)), .ref 66]) rfl rfl rfl rfl ?_
                    refine jx_ar (pc' := 58) (st' := [.int (i32 (0)), .int (i32 (0)), .int (i32 (0)), .int (i32 (r345)), .int (i32 (6)), .ref 66]) rfl rfl rfl rfl ?_
                    refine jx_vr (pc' := 61) (as := [.int (i32 (6)), .int (i32 (r345)), .int (i32 (0)), .int (i32 (0)), .int (i32 (0))]) (st := []) rfl rfl rfl rfl ⟨rfl, rfl, Nat.le_of_ble_eq_true rfl⟩ rfl rfl (c_node_o (dd := d) (hd := by omega) (hW := hW352) (kind := 6) (a := r345) (b := 0) (c := 0) (e := 0) (nd := nd2_349) (e_nd := show G343 31 = nd2_349 from (e359)) (ec := ec2_351) (e_ec := show ecn A344 (G343 31) = ec2_351 from e361)  (h_kind := ⟨(by decide), (by decide)⟩) (h_a := ⟨(Int.le_trans (by decide : (-2147483648 : Int) ≤ -2147483648) b355.1), (Int.le_trans b355.2 (by decide : (2147483647 : Int) ≤ 2147483647))⟩) (h_b := ⟨(by decide), (by decide)⟩) (h_c := ⟨(by decide), (by decide)⟩) (h_e := ⟨(by decide), (by decide)⟩)  (p_0 := by omega) (p_1 := by omega) (p_2 := by omega)) (fun o V' hq => ?_)
                    obtain ⟨G387, A388, nd2_389, ec2_390, rfl, rfl, hW391, hF392, hQ393, e394, e395, p396, p397, p398, -⟩ := hq
                    have hF400 := Fr_tr hF369 hF392 (Fr_sub (by decide)) (Fr_sub (by decide))
                    have hP401 := Pf_tr hP370 hQ393 (by omega)
                    have bnd2_389 : (0 : Int) ≤ nd2_389 ∧ nd2_389 ≤ 6999 := e394 ▸ hW391.1 31
                    refine .inr ⟨_, rfl, ?_⟩
                    refine jx_rt (v := some (.int (i32 (nd2_349)))) rfl rfl rfl rfl rfl rfl ?_
                    have z402 := tz_f (tk2_350)
                    exact ⟨_, _, _, at2_346, fk2_347, op2_348, nd2_389, tk2_350, ec2_390, rfl, rfl, hW391, hF400, hP401, by omega, ((hF392.1 10 rfl).trans (e356)), ((hF392.1 16 rfl).trans (e357)), ((hF392.1 15 rfl).trans (e358)), (e394), ((hF392.1 11 rfl).trans (e360)), e395, by omega, by omega, by omega, by omega, by omega, by omega, by first | exact Or.inr (Or.inl (⟨by omega, by omega, by omega⟩))⟩
                  · have _q : True := trivial
                    refine jx_ld (pc' := 52) (l' := jSto1 L326 2 (.int (i32 (r345)))) (st' := []) rfl rfl ?_
                    obtain ⟨L403, eL403⟩ : ∃ q, q = jSto1 L326 2 (.int (i32 (r345))) := ⟨_, rfl⟩
                    rw [← eL403]
                    have gL403_0 : jGet L403 0 = some (.ref 66) := eL403 ▸ jg_ne (by decide) gL326_0 rfl
                    have gL403_1 : jGet L403 1 = some (.int (i32 (6))) := eL403 ▸ jg_ne (by decide) gL326_1 rfl
                    have gL403_2 : jGet L403 2 = some (.int (i32 (r345))) := eL403 ▸ jg_eq
                    refine jx_ld (pc' := 53) (l' := L403) (st' := [.ref 66]) rfl (jl_aloadn gL403_0) ?_
                    refine jx_ld (pc' := 54) (l' := L403) (st' := [.int (i32 (6)), .ref 66]) rfl (jl_iloadn gL403_1) ?_
                    refine jx_ld (pc' := 55) (l' := L403) (st' := [.int (i32 (r345)), .int (i32 (6)), .ref 66]) rfl (jl_iloadn gL403_2) ?_
                    refine jx_ar (pc' := 56) (st' := [.int (i32 (0)), .int (i32 (r345)), .int (i32 (6)), .ref 66]) rfl rfl rfl rfl ?_
                    refine jx_ar (pc' := 57) (st' := [.int (i32 (0)), .int (i32 (0)), .int (i32 (r345)), .int (i32 (6)), .ref 66]) rfl rfl rfl rfl ?_
                    refine jx_ar (pc' := 58) (st' := [.int (i32 (0)), .int (i32 (0)), .int (i32 (0)), .int (i32 (r345)), .int (i32 (6)), .ref 66]) rfl rfl rfl rfl ?_
                    refine jx_vr (pc' := 61) (as := [.int (i32 (6)), .int (i32 (r345)), .int (i32 (0)), .int (i32 (0)), .int (i32 (0))]) (st := []) rfl rfl rfl rfl ⟨rfl, rfl, Nat.le_of_ble_eq_true rfl⟩ rfl rfl (c_node_o (dd := d) (hd := by omega) (hW := hW352) (kind := 6) (a := r345) (b := 0) (c := 0) (e := 0) (nd := nd2_349) (e_nd := show G343 31 = nd2_349 from (e359)) (ec := ec2_351) (e_ec := show ecn A344 (G343 31) = ec2_351 from e361)  (h_kind := ⟨(by decide), (by decide)⟩) (h_a := ⟨(Int.le_trans (by decide : (-2147483648 : Int) ≤ -2147483648) b355.1), (Int.le_trans b355.2 (by decide : (2147483647 : Int) ≤ 2147483647))⟩) (h_b := ⟨(by decide), (by decide)⟩) (h_c := ⟨(by decide), (by decide)⟩) (h_e := ⟨(by decide), (by decide)⟩)  (p_0 := by omega) (p_1 := by omega) (p_2 := by omega)) (fun o V' hq => ?_)
                    obtain ⟨G404, A405, nd2_406, ec2_407, rfl, rfl, hW408, hF409, hQ410, e411, e412, p413, p414, p415, -⟩ := hq
                    have hF417 := Fr_tr hF369 hF409 (Fr_sub (by decide)) (Fr_sub (by decide))
                    have hP418 := Pf_tr hP370 hQ410 (by omega)
                    have sf419 : wE A405 Vs sb (2 * k + 3) (r345) (nd) (nd2_349) := wE_ag (by omega) (Sg_fr hF409 (by decide)) (Ag_pf hQ410 (by omega)) a383
                    have bnd2_406 : (0 : Int) ≤ nd2_406 ∧ nd2_406 ≤ 6999 := e411 ▸ hW408.1 31
                    refine .inr ⟨_, rfl, ?_⟩
                    refine jx_rt (v := some (.int (i32 (nd2_349)))) rfl rfl rfl rfl rfl rfl ?_
                    have z420 := tz_f (tk2_350)
                    exact ⟨_, _, _, at2_346, fk2_347, op2_348, nd2_406, tk2_350, ec2_407, rfl, rfl, hW408, hF417, hP418, by omega, ((hF409.1 10 rfl).trans (e356)), ((hF409.1 16 rfl).trans (e357)), ((hF409.1 15 rfl).trans (e358)), (e411), ((hF409.1 11 rfl).trans (e360)), e412, by omega, by omega, by omega, by omega, by omega, by omega, by first | exact Or.inr (Or.inr ((⟨by omega, by omega, by omega, (wE_one p415 (by omega) (by omega) (by omega) (wE_mono (by omega) (by omega) (by omega) sf419)), by omega, by omega⟩)))⟩
                · have _q := h325
                  exact absurd h325 (by omega)
          · have _q : True := trivial
            refine jx_if_eq (pc' := 27) (tg := 62) rfl rfl rfl (by decide) (by decide) (fun h421 => ?_) (fun h421 => ?_)
            · have _q := h421
              refine jx_ld (pc' := 63) (l' := [(0, .ref 66)]) (st' := [.ref 66]) rfl (jl_aloadn rfl) ?_
              refine jx_ld (pc' := 64) (l' := [(0, .ref 66)]) (st' := [.ref 66, .ref 66]) rfl (jl_aloadn rfl) ?_
              refine jx_vr (pc' := 67) (as := []) (st := [.ref 66]) rfl rfl rfl rfl ⟨rfl, rfl, Nat.le_of_ble_eq_true rfl⟩ rfl rfl (c_readOperand_w (dd := d) (hE := hE) (hd := by omega) (hW := hW)  (ln := ln) (e_ln := show G 9 = ln from (e_ln)) (le := le) (e_le := show A 4 (ln).toNat = le from (e_le)) (at0 := at0) (e_at0 := show G 10 = at0 from (e_at0)) (fk := fk) (e_fk := show G 16 = fk from (e_fk)) (op0 := op0) (e_op0 := show G 15 = op0 from (e_op0)) (nd := nd) (e_nd := show G 31 = nd from (e_nd)) (tk0 := tk0) (e_tk0 := show G 11 = tk0 from (e_tk0)) (ec := ec) (e_ec := show ecn A (G 31) = ec from e_ec) (i_SV := (SV_ext (rfl) (rfl) i_SV))   (p_0 := by omega) (p_1 := by omega) (p_2 := by omega) (p_3 := by omega) (p_4 := by omega) (p_5 := by omega)) (fun o V' hq => ?_)
              obtain ⟨G422, A423, r424, at2_425, fk2_426, op2_427, nd2_428, tk2_429, ec2_430, rfl, rfl, hW431, hF432, hQ433, b434, e435, e436, e437, e438, e439, e440, p441, p442, p443, p444, p445, p446, q447⟩ := hq
              have hF448 := Fr_tr hF0 hF432 (Fr_sub (by decide)) (Fr_sub (by decide))
              have hP449 := Pf_tr hP0 hQ433 (by omega)
              have bat2_425 : (0 : Int) ≤ at2_425 ∧ at2_425 ≤ 3002 := e435 ▸ hW431.1 10
              have bfk2_426 : (0 : Int) ≤ fk2_426 ∧ fk2_426 ≤ 6 := e436 ▸ hW431.1 16
              have bop2_427 : (-2147483648 : Int) ≤ op2_427 ∧ op2_427 ≤ 2147483647 := e437 ▸ hW431.1 15
              have bnd2_428 : (0 : Int) ≤ nd2_428 ∧ nd2_428 ≤ 6999 := e438 ▸ hW431.1 31
              have ztk2_429 := tz_b tk2_429
              have btk2_429 : (0 : Int) ≤ tk2_429 ∧ tk2_429 ≤ 5 := e439 ▸ hW431.1 11
              refine .inr ⟨_, rfl, ?_⟩
              rcases q447 with ⟨a450, a451, a452, a453, a454, a455⟩ | ⟨a456, a457, a458⟩ | ⟨a459, a460, a461, a462, a463, a464⟩
              · have _q : True := trivial
                exfalso
                omega
              · have _q : True := trivial
                refine jx_vr (pc' := 70) (as := [.int (i32 (r424))]) (st := []) rfl rfl rfl rfl ⟨rfl, rfl, Nat.le_of_ble_eq_true rfl⟩ rfl rfl (c_readRest_w (dd := d) (hE := hE) (hd := by omega) (hW := hW431) (x := r424) (lo := nd) (ln := ln) (e_ln := show G422 9 = ln from ((hF432.1 9 rfl).trans (e_ln))) (le := le) (e_le := show A423 4 (ln).toNat = le from (congrFun (hF432.2 4 rfl) _).trans (e_le)) (at0 := at2_425) (e_at0 := show G422 10 = at2_425 from (e435)) (fk := fk2_426) (e_fk := show G422 16 = fk2_426 from (e436)) (op0 := op2_427) (e_op0 := show G422 15 = op2_427 from (e437)) (nd := nd2_428) (e_nd := show G422 31 = nd2_428 from (e438)) (tk0 := tk2_429) (e_tk0 := show G422 11 = tk2_429 from (e439)) (ec := ec2_430) (e_ec := show ecn A423 (G422 31) = ec2_430 from e440) (i_SV := (SV_ext ((hF432.1 29 rfl)) ((hF432.2 14 rfl)) i_SV)) (h_x := ⟨(Int.le_trans (by decide : (-2147483648 : Int) ≤ -2147483648) b434.1), (Int.le_trans b434.2 (by decide : (2147483647 : Int) ≤ 2147483647))⟩)  (p_0 := by omega) (p_1 := by omega) (p_2 := by omega) (p_3 := by omega) (p_4 := by omega) (p_5 := by omega) (p_6 := by omega) (p_7 := by omega) (p_8 := by omega) (p_9 := (fun q => absurd q (by omega)))) (fun o V' hq => ?_)
                obtain ⟨G465, A466, r467, at2_468, fk2_469, op2_470, nd2_471, tk2_472, ec2_473, rfl, rfl, hW474, hF475, hQ476, b477, e478, e479, e480, e481, e482, e483, p484, p485, p486, p487, p488, p489, q490⟩ := hq
                have hF491 := Fr_tr hF448 hF475 (Fr_sub (by decide)) (Fr_sub (by decide))
                have hP492 := Pf_tr hP449 hQ476 (by omega)
                have bat2_468 : (0 : Int) ≤ at2_468 ∧ at2_468 ≤ 3002 := e478 ▸ hW474.1 10
                have bfk2_469 : (0 : Int) ≤ fk2_469 ∧ fk2_469 ≤ 6 := e479 ▸ hW474.1 16
                have bop2_470 : (-2147483648 : Int) ≤ op2_470 ∧ op2_470 ≤ 2147483647 := e480 ▸ hW474.1 15
                have bnd2_471 : (0 : Int) ≤ nd2_471 ∧ nd2_471 ≤ 6999 := e481 ▸ hW474.1 31
                have ztk2_472 := tz_b tk2_472
                have btk2_472 : (0 : Int) ≤ tk2_472 ∧ tk2_472 ≤ 5 := e482 ▸ hW474.1 11
                refine .inr ⟨_, rfl, ?_⟩
                rcases q490 with ⟨a493, a494, a495, a496, a497, a498⟩ | ⟨a499, a500, a501⟩ | ⟨a502, a503, a504, a505, a506⟩
                · have _q : True := trivial
                  refine jx_rt (v := some (.int (i32 (r467)))) rfl rfl rfl rfl rfl rfl ?_
                  have z507 := tz_f (tk2_472)
                  exact ⟨_, _, _, at2_468, fk2_469, op2_470, nd2_471, tk2_472, ec2_473, rfl, rfl, hW474, hF491, hP492, by omega, (e478), (e479), (e480), (e481), (e482), e483, by omega, by omega, by omega, by omega, by omega, by omega, by first | exact Or.inr (Or.inl (⟨by omega, by omega, by omega⟩))⟩
                · have _q : True := trivial
                  exfalso
                  omega
                · have _q : True := trivial
                  exfalso
                  omega
              · have _q : True := trivial
                refine jx_vr (pc' := 70) (as := [.int (i32 (r424))]) (st := []) rfl rfl rfl rfl ⟨rfl, rfl, Nat.le_of_ble_eq_true rfl⟩ rfl rfl (c_readRest_w (dd := d) (hE := hE) (hd := by omega) (hW := hW431) (x := r424) (lo := nd) (ln := ln) (e_ln := show G422 9 = ln from ((hF432.1 9 rfl).trans (e_ln))) (le := le) (e_le := show A423 4 (ln).toNat = le from (congrFun (hF432.2 4 rfl) _).trans (e_le)) (at0 := at2_425) (e_at0 := show G422 10 = at2_425 from (e435)) (fk := fk2_426) (e_fk := show G422 16 = fk2_426 from (e436)) (op0 := op2_427) (e_op0 := show G422 15 = op2_427 from (e437)) (nd := nd2_428) (e_nd := show G422 31 = nd2_428 from (e438)) (tk0 := tk2_429) (e_tk0 := show G422 11 = tk2_429 from (e439)) (ec := ec2_430) (e_ec := show ecn A423 (G422 31) = ec2_430 from e440) (i_SV := (SV_ext ((hF432.1 29 rfl)) ((hF432.2 14 rfl)) i_SV)) (h_x := ⟨(Int.le_trans (by decide : (-2147483648 : Int) ≤ -2147483648) b434.1), (Int.le_trans b434.2 (by decide : (2147483647 : Int) ≤ 2147483647))⟩)  (p_0 := by omega) (p_1 := by omega) (p_2 := by omega) (p_3 := by omega) (p_4 := by omega) (p_5 := by omega) (p_6 := by omega) (p_7 := by omega) (p_8 := by omega) (p_9 := (fun _ => a462))) (fun o V' hq => ?_)
                obtain ⟨G508, A509, r510, at2_511, fk2_512, op2_513, nd2_514, tk2_515, ec2_516, rfl, rfl, hW517, hF518, hQ519, b520, e521, e522, e523, e524, e525, e526, p527, p528, p529, p530, p531, p532, q533⟩ := hq
                have hF534 := Fr_tr hF448 hF518 (Fr_sub (by decide)) (Fr_sub (by decide))
                have hP535 := Pf_tr hP449 hQ519 (by omega)
                have sf536 : wE A509 Vs sb (2 * k + 3) (r424) (nd) (nd2_428) := wE_ag (by omega) (Sg_fr hF518 (by decide)) (Ag_pf hQ519 (by omega)) a462
                have bat2_511 : (0 : Int) ≤ at2_511 ∧ at2_511 ≤ 3002 := e521 ▸ hW517.1 10
                have bfk2_512 : (0 : Int) ≤ fk2_512 ∧ fk2_512 ≤ 6 := e522 ▸ hW517.1 16
                have bop2_513 : (-2147483648 : Int) ≤ op2_513 ∧ op2_513 ≤ 2147483647 := e523 ▸ hW517.1 15
                have bnd2_514 : (0 : Int) ≤ nd2_514 ∧ nd2_514 ≤ 6999 := e524 ▸ hW517.1 31
                have ztk2_515 := tz_b tk2_515
                have btk2_515 : (0 : Int) ≤ tk2_515 ∧ tk2_515 ≤ 5 := e525 ▸ hW517.1 11
                refine .inr ⟨_, rfl, ?_⟩
                rcases q533 with ⟨a537, a538, a539, a540, a541, a542⟩ | ⟨a543, a544, a545⟩ | ⟨a546, a547, a548, a549, a550⟩
                · have _q : True := trivial
                  exfalso
                  omega
                · have _q : True := trivial
                  refine jx_rt (v := some (.int (i32 (r510)))) rfl rfl rfl rfl rfl rfl ?_
                  have z551 := tz_f (tk2_515)
                  exact ⟨_, _, _, at2_511, fk2_512, op2_513, nd2_514, tk2_515, ec2_516, rfl, rfl, hW517, hF534, hP535, by omega, (e521), (e522), (e523), (e524), (e525), e526, by omega, by omega, by omega, by omega, by omega, by omega, by first | exact Or.inr (Or.inl (⟨by omega, by omega, by omega⟩))⟩
                · have _q : True := trivial
                  refine jx_rt (v := some (.int (i32 (r510)))) rfl rfl rfl rfl rfl rfl ?_
                  have z552 := tz_f (tk2_515)
                  exact ⟨_, _, _, at2_511, fk2_512, op2_513, nd2_514, tk2_515, ec2_516, rfl, rfl, hW517, hF534, hP535, by omega, (e521), (e522), (e523), (e524), (e525), e526, by omega, by omega, by omega, by omega, by omega, by omega, by first | exact Or.inr (Or.inr ((⟨by omega, by omega, by omega, (wE_mono (by omega) (by omega) (by omega) a549), by omega, by omega⟩)))⟩
            · have _q := h421
              exact absurd h421 (by omega)
    · have _q := h8
      exact absurd h8 (by omega)
set_option maxRecDepth 20000 in
set_option maxHeartbeats 4000000 in
theorem c_readE_0_w {X : jX} {dd : Nat} {Vs : Nat → Prop} {sb : Int} {c0 c1 : jC} {G : Nat → Int} {A : Nat → Nat → Int} {T : jH} {ln le at0 fk op0 nd tk0 ec : Int} (hd : 6 * 0 + 10 ≤ dd) (hW : Wk G A) (e_ln : G 9 = ln) (e_le : A 4 (ln).toNat = le) (e_at0 : G 10 = at0) (e_fk : G 16 = fk) (e_op0 : G 15 = op0) (e_nd : G 31 = nd) (e_tk0 : G 11 = tk0) (e_ec : ecn A (G 31) = ec) (i_SV : SV Vs sb G A) (p_0 : 0 ≤ op0) (p_1 : op0 ≤ 9) (p_2 : op0 ≤ 8 ∨ 1 ≤ fk) (p_3 : 9 - op0 ≤ ((0 : Nat) : Int) ∨ 1 ≤ fk) (p_4 : nd ≤ 2 * at0 - tz tk0 + 50) (p_5 : at0 ≤ le) : wk X dd 286 [.ref 66] (rV c0 c1 G A T) (fun o V' => ∃ (G' : Nat → Int) (A' : Nat → Nat → Int) (r : Int) (at2 : Int) (fk2 : Int) (op2 : Int) (nd2 : Int) (tk2 : Int) (ec2 : Int), V' = rV c0 c1 G' A' T ∧ o = .inl (some (.int (i32 r))) ∧ Wk G' A' ∧ Fr [10, 11, 12, 13, 14, 15, 16, 17, 18, 31] [15, 16, 17, 18, 19, 20, 21, 22, 24, 28] G A G' A' ∧ Pf nd A A' ∧ ((-2147483648 : Int) ≤ r ∧ r ≤ 2147483647) ∧ G' 10 = at2 ∧ G' 16 = fk2 ∧ G' 15 = op2 ∧ G' 31 = nd2 ∧ G' 11 = tk2 ∧ ecn A' (G' 31) = ec2 ∧ (at0 ≤ at2) ∧ (at2 ≤ le) ∧ (nd ≤ nd2) ∧ (op2 = op0) ∧ (0 ≤ r) ∧ (r ≤ nd2) ∧ (((1 ≤ fk) ∧ (1 ≤ fk2) ∧ (nd2 = nd) ∧ (at2 = at0) ∧ (tk2 = tk0) ∧ (tz tk2 = tz tk0)) ∨ ((fk = 0) ∧ (1 ≤ fk2) ∧ (nd2 - nd ≤ (2 * at2 - tz tk2) - (2 * at0 - tz tk0) + 1)) ∨ ((fk = 0) ∧ (fk2 = 0) ∧ (nd2 - nd ≤ (2 * at2 - tz tk2) - (2 * at0 - tz tk0)) ∧ (wE A' Vs sb (2 * 0 + 2) (r) (nd) (nd2)) ∧ (nd2 - nd + 5 * (ec2 - ec) ≤ (2 * at2 - tz tk2) - (2 * at0 - tz tk0) - tz tk2) ∧ (tz tk0 = 1)))) := by
  obtain ⟨d, rfl⟩ : ∃ d, dd = d + 1 := ⟨dd - 1, by omega⟩
  refine wk_of (e := jm286) rfl (Nat.le_of_ble_eq_true rfl) ?_
  show wj X d jm286 (0, [(0, .ref 66)], [], rV c0 c1 G A T) _
  have hF0 : Fr [10, 11, 12, 13, 14, 15, 16, 17, 18, 31] [15, 16, 17, 18, 19, 20, 21, 22, 24, 28] G A G A := Fr_rf
  have hP0 : Pf nd A A := Pf_rf
  have b_ln : (0 : Int) ≤ ln ∧ ln ≤ 3000 := e_ln ▸ hW.1 9
  have b_le : (0 : Int) ≤ le ∧ le ≤ 3000 := e_le ▸ hW.2 4 _
  have b_at0 : (0 : Int) ≤ at0 ∧ at0 ≤ 3002 := e_at0 ▸ hW.1 10
  have b_fk : (0 : Int) ≤ fk ∧ fk ≤ 6 := e_fk ▸ hW.1 16
  have b_op0 : (-2147483648 : Int) ≤ op0 ∧ op0 ≤ 2147483647 := e_op0 ▸ hW.1 15
  have b_nd : (0 : Int) ≤ nd ∧ nd ≤ 6999 := e_nd ▸ hW.1 31
  have z_tk0 := tz_f tk0
  have b_tk0 : (0 : Int) ≤ tk0 ∧ tk0 ≤ 5 := e_tk0 ▸ hW.1 11
  refine jx_ld (pc' := 1) (l' := [(0, .ref 66)]) (st' := [.ref 66]) rfl (jl_aloadn rfl) ?_
  refine jx_vr (pc' := 4) (as := []) (st := []) rfl rfl rfl rfl ⟨rfl, rfl, Nat.le_of_ble_eq_true rfl⟩ rfl rfl (c_bad (dd := d) (hd := by omega) (hW := hW)  (fk := fk) (e_fk := show G 16 = fk from (e_fk))    ) (fun o V' hq => ?_)
  obtain ⟨r1, rfl, rfl, b2, q3⟩ := hq
  refine .inr ⟨_, rfl, ?_⟩
  rcases q3 with ⟨rfl, a4⟩ | ⟨rfl, a5⟩
  · have _q : True := trivial
    refine jx_if_eq (pc' := 7) (tg := 9) rfl rfl rfl (by decide) (by decide) (fun h6 => ?_) (fun h6 => ?_)
    · have _q := h6
      exact absurd h6 (by omega)
    · have _q := h6
      refine jx_ar (pc' := 8) (st' := [.int (i32 (0))]) rfl rfl rfl rfl ?_
      refine jx_rt (v := some (.int (i32 (0)))) rfl rfl rfl rfl rfl rfl ?_
      have z7 := tz_f (tk0)
      exact ⟨_, _, _, at0, fk, op0, nd, tk0, ec, rfl, rfl, hW, hF0, hP0, by omega, (e_at0), (e_fk), (e_op0), (e_nd), (e_tk0), e_ec, by omega, by omega, by omega, by omega, by omega, by omega, by first | exact Or.inl (⟨by omega, by omega, by omega, by omega, by omega, by omega⟩)⟩
  · have _q : True := trivial
    refine jx_if_eq (pc' := 7) (tg := 9) rfl rfl rfl (by decide) (by decide) (fun h8 => ?_) (fun h8 => ?_)
    · have _q := h8
      exfalso
      omega
    · have _q := h8
      exact absurd h8 (by omega)
theorem REw_all (X : jX) : ∀ k, REw X k
  | 0 => @c_readE_0_w X
  | k + 1 => @c_readE_s_w X k (REw_all X k)

