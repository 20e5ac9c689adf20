def REw (X : jX) (k : Nat) : Prop := ∀ ⦃dd : Nat⦄ ⦃Vs : Nat → Prop⦄ ⦃sb : Int⦄ ⦃c0 c1 : jC⦄ ⦃G : Nat → Int⦄ ⦃A : Nat → Nat → Int⦄ ⦃T : jH⦄ ⦃ln le at0 fk op0 nd tk0 ec sy : Int⦄ (hd : 6 * k + 10 ≤ dd) (hW : Wk G A) (e_ln : G 9 = ln) (e_le : A 4 (ln).toNat = le) (e_at0 : G 10 = at0) (e_fk : G 16 = fk) (e_op0 : G 15 = op0) (e_nd : G 31 = nd) (e_tk0 : G 11 = tk0) (e_ec : ecn A (G 31) = ec) (e_sy : G 19 = sy) (i_SV : SV Vs sb G A) (p_0 : 0 ≤ op0) (p_1 : op0 ≤ 9) (p_2 : op0 ≤ 8 ∨ 1 ≤ fk) (p_3 : 9 - op0 ≤ (k : Int) ∨ 1 ≤ fk) (p_4 : nd ≤ 2 * at0 - tz tk0 + 50) (p_5 : at0 ≤ le), wk X dd 286 [.ref 66] (rV c0 c1 G A T) (fun o V' => ∃ (G' : Nat → Int) (A' : Nat → Nat → Int) (r : Int) (at2 : Int) (fk2 : Int) (op2 : Int) (nd2 : Int) (tk2 : Int) (ec2 : Int), V' = rV c0 c1 G' A' T ∧ o = .inl (some (.int (i32 r))) ∧ Wk G' A' ∧ Fr [10, 11, 12, 13, 14, 15, 16, 17, 18, 31] [15, 16, 17, 18, 19, 20, 21, 22, 24, 28] G A G' A' ∧ Pf nd A A' ∧ ((-2147483648 : Int) ≤ r ∧ r ≤ 2147483647) ∧ G' 10 = at2 ∧ G' 16 = fk2 ∧ G' 15 = op2 ∧ G' 31 = nd2 ∧ G' 11 = tk2 ∧ ecn A' (G' 31) = ec2 ∧ (at0 ≤ at2) ∧ (at2 ≤ le) ∧ (nd ≤ nd2) ∧ (op2 = op0) ∧ (0 ≤ r) ∧ (r ≤ nd2) ∧ (((1 ≤ fk) ∧ (1 ≤ fk2) ∧ (nd2 = nd) ∧ (at2 = at0) ∧ (tk2 = tk0) ∧ (tz tk2 = tz tk0)) ∨ ((fk = 0) ∧ (1 ≤ fk2) ∧ (nd2 - nd ≤ (2 * at2 - tz tk2) - (2 * at0 - tz tk0) + 1)) ∨ ((fk = 0) ∧ (fk2 = 0) ∧ (nd2 - nd ≤ (2 * at2 - tz tk2) - (2 * at0 - tz tk0)) ∧ (wE A' Vs sb (2 * k + 2) (r) (nd) (nd2)) ∧ (nd2 - nd + 5 * (ec2 - ec) ≤ (2 * at2 - tz tk2) - (2 * at0 - tz tk0) - tz tk2) ∧ (NdM A' (nd) (nd2) (sy)) ∧ (tz tk0 = 1))))
set_option maxRecDepth 20000 in
set_option maxHeartbeats 4000000 in
theorem c_readIndex_w {X : jX} {k : Nat} (hE : REw X k) {dd : Nat} {Vs : Nat → Prop} {sb : Int} {c0 c1 : jC} {G : Nat → Int} {A : Nat → Nat → Int} {T : jH} {ln le at0 fk op0 nd tk0 ec sy : Int} (hd : 6 * k + 12 ≤ dd) (hW : Wk G A) (e_ln : G 9 = ln) (e_le : A 4 (ln).toNat = le) (e_at0 : G 10 = at0) (e_fk : G 16 = fk) (e_op0 : G 15 = op0) (e_nd : G 31 = nd) (e_tk0 : G 11 = tk0) (e_ec : ecn A (G 31) = ec) (e_sy : G 19 = sy) (i_SV : SV Vs sb G A) (p_0 : 0 ≤ op0) (p_1 : op0 ≤ 9) (p_2 : op0 ≤ 8 ∨ 1 ≤ fk) (p_3 : 9 - op0 ≤ ((k + 1 : Nat) : Int) ∨ 1 ≤ fk) (p_4 : nd ≤ 2 * at0 - tz tk0 + 50) (p_5 : at0 ≤ le) (p_6 : 1 ≤ tk0) (p_7 : op0 ≤ 8) (p_8 : fk = 0) : wk X dd 284 [.ref 66] (rV c0 c1 G A T) (fun o V' => ∃ (G' : Nat → Int) (A' : Nat → Nat → Int) (r : Int) (at2 : Int) (fk2 : Int) (op2 : Int) (nd2 : Int) (tk2 : Int) (ec2 : Int), V' = rV c0 c1 G' A' T ∧ o = .inl (some (.int (i32 r))) ∧ Wk G' A' ∧ Fr [10, 11, 12, 13, 14, 15, 16, 17, 18, 31] [15, 16, 17, 18, 19, 20, 21, 22, 24, 28] G A G' A' ∧ Pf nd A A' ∧ ((-2147483648 : Int) ≤ r ∧ r ≤ 2147483647) ∧ G' 10 = at2 ∧ G' 16 = fk2 ∧ G' 15 = op2 ∧ G' 31 = nd2 ∧ G' 11 = tk2 ∧ ecn A' (G' 31) = ec2 ∧ (at0 ≤ at2) ∧ (at2 ≤ le) ∧ (nd ≤ nd2) ∧ (op2 = op0) ∧ (0 ≤ r) ∧ (r ≤ nd2) ∧ (((fk = 0) ∧ (1 ≤ fk2) ∧ (nd2 - nd ≤ (2 * at2 - tz tk2) - (2 * at0 - tz tk0) + 1)) ∨ ((fk = 0) ∧ (fk2 = 0) ∧ (nd2 - nd ≤ (2 * at2 - tz tk2) - (2 * at0 - tz tk0)) ∧ (wE A' Vs sb (2 * k + 2) (r) (nd) (nd2)) ∧ (nd2 - nd + 5 * (ec2 - ec) ≤ (2 * at2 - tz tk2) - (2 * at0 - tz tk0) - 4 - tz tk2) ∧ (NdM A' (nd) (nd2) (sy))))) := by
  obtain ⟨d, rfl⟩ : ∃ d, dd = d + 1 := ⟨dd - 1, by omega⟩
  refine wk_of (e := jm284) rfl (Nat.le_of_ble_eq_true rfl) ?_
  show wj X d jm284 (0, [(0, .ref 66)], [], rV c0 c1 G A T) _
  have hF0 : Fr [10, 11, 12, 13, 14, 15, 16, 17, 18, 31] [15, 16, 17, 18, 19, 20, 21, 22, 24, 28] G A G A := Fr_rf
  have hP0 : Pf nd A A := Pf_rf
  have b_ln : (0 : Int) ≤ ln ∧ ln ≤ 3000 := e_ln ▸ hW.1 9
  have b_le : (0 : Int) ≤ le ∧ le ≤ 3000 := e_le ▸ hW.2 4 _
  have b_at0 : (0 : Int) ≤ at0 ∧ at0 ≤ 3002 := e_at0 ▸ hW.1 10
  have b_fk : (0 : Int) ≤ fk ∧ fk ≤ 6 := e_fk ▸ hW.1 16
  have b_op0 : (-2147483648 : Int) ≤ op0 ∧ op0 ≤ 2147483647 := e_op0 ▸ hW.1 15
  have b_nd : (0 : Int) ≤ nd ∧ nd ≤ 6999 := e_nd ▸ hW.1 31
  have z_tk0 := tz_f tk0
  have b_tk0 : (0 : Int) ≤ tk0 ∧ tk0 ≤ 5 := e_tk0 ▸ hW.1 11
  have b_sy : (0 : Int) ≤ sy ∧ sy ≤ 202 := e_sy ▸ hW.1 19
  refine jx_ld (pc' := 1) (l' := [(0, .ref 66)]) (st' := [.ref 66]) rfl (jl_aloadn rfl) ?_
  refine jx_vr (pc' := 4) (as := []) (st := []) rfl rfl rfl rfl ⟨rfl, rfl, Nat.le_of_ble_eq_true rfl⟩ rfl rfl (c_open (dd := d) (hd := by omega) (hW := hW)  (fk := fk) (e_fk := show G 16 = fk from (e_fk)) (op0 := op0) (e_op0 := show G 15 = op0 from (e_op0))    (p_0 := by omega)) (fun o V' hq => ?_)
  obtain ⟨G1, A2, fk2_3, op2_4, rfl, rfl, hW5, hF6, e7, e8, p9, q10⟩ := hq
  have hF11 := Fr_tr hF0 hF6 (Fr_sub (by decide)) (Fr_sub (by decide))
  have hP12 := Pf_f hP0 hF6 (by decide)
  have ec13 : ecn A2 (G1 31) = ec := (ecn_f (hF6.2 15 rfl) (hF6.1 31 rfl)).trans e_ec
  have bfk2_3 : (0 : Int) ≤ fk2_3 ∧ fk2_3 ≤ 6 := e7 ▸ hW5.1 16
  have bop2_4 : (-2147483648 : Int) ≤ op2_4 ∧ op2_4 ≤ 2147483647 := e8 ▸ hW5.1 15
  refine .inl ⟨rfl, ?_⟩
  rcases q10 with a14 | ⟨a15, a16, a17⟩
  · have _q : True := trivial
    refine jx_ld (pc' := 5) (l' := [(0, .ref 66)]) (st' := [.ref 66]) rfl (jl_aloadn rfl) ?_
    refine jx_ar (pc' := 6) (st' := [.int (i32 (1)), .ref 66]) rfl rfl rfl rfl ?_
    refine jx_vr (pc' := 9) (as := [.int (i32 (1))]) (st := []) rfl rfl rfl rfl ⟨rfl, rfl, Nat.le_of_ble_eq_true rfl⟩ rfl rfl (c_need (dd := d) (hd := by omega) (hW := hW5) (g := 1) (ln := ln) (e_ln := show G1 9 = ln from ((hF6.1 9 rfl).trans (e_ln))) (le := le) (e_le := show A2 4 (ln).toNat = le from (congrFun (hF6.2 4 rfl) _).trans (e_le)) (at0 := at0) (e_at0 := show G1 10 = at0 from ((hF6.1 10 rfl).trans (e_at0))) (fk := fk2_3) (e_fk := show G1 16 = fk2_3 from (e7)) (tk0 := tk0) (e_tk0 := show G1 11 = tk0 from ((hF6.1 11 rfl).trans (e_tk0)))  (h_g := ⟨(by decide), (by decide)⟩)  (p_0 := by omega)) (fun o V' hq => ?_)
    obtain ⟨G18, A19, at2_20, tk2_21, fk2_22, rfl, rfl, hW23, hF24, e25, e26, e27, p28, p29, q30⟩ := hq
    have hF31 := Fr_tr hF11 hF24 (Fr_sub (by decide)) (Fr_sub (by decide))
    have hP32 := Pf_f hP12 hF24 (by decide)
    have ec33 : ecn A19 (G18 31) = ec := (ecn_f (hF24.2 15 rfl) (hF24.1 31 rfl)).trans ec13
    have bat2_20 : (0 : Int) ≤ at2_20 ∧ at2_20 ≤ 3002 := e25 ▸ hW23.1 10
    have ztk2_21 := tz_b tk2_21
    have btk2_21 : (0 : Int) ≤ tk2_21 ∧ tk2_21 ≤ 5 := e26 ▸ hW23.1 11
    have bfk2_22 : (0 : Int) ≤ fk2_22 ∧ fk2_22 ≤ 6 := e27 ▸ hW23.1 16
    refine .inl ⟨rfl, ?_⟩
    rcases q30 with ⟨a34, a35, a36, a37⟩ | ⟨a38, a39, a40, a41⟩
    · have _q : True := trivial
      refine jx_ld (pc' := 10) (l' := [(0, .ref 66)]) (st' := [.ref 66]) rfl (jl_aloadn rfl) ?_
      refine jx_vr (pc' := 13) (as := []) (st := []) rfl rfl rfl rfl ⟨rfl, rfl, Nat.le_of_ble_eq_true rfl⟩ rfl rfl (hE (dd := d) (hd := by omega) (hW := hW23)  (ln := ln) (e_ln := show G18 9 = ln from ((hF24.1 9 rfl).trans ((hF6.1 9 rfl).trans (e_ln)))) (le := le) (e_le := show A19 4 (ln).toNat = le from (congrFun ((hF24.2 4 rfl).trans (hF6.2 4 rfl)) _).trans (e_le)) (at0 := at2_20) (e_at0 := show G18 10 = at2_20 from (e25)) (fk := fk2_22) (e_fk := show G18 16 = fk2_22 from (e27)) (op0 := op2_4) (e_op0 := show G18 15 = op2_4 from ((hF24.1 15 rfl).trans (e8))) (nd := nd) (e_nd := show G18 31 = nd from ((hF24.1 31 rfl).trans ((hF6.1 31 rfl).trans (e_nd)))) (tk0 := tk2_21) (e_tk0 := show G18 11 = tk2_21 from (e26)) (ec := ec) (e_ec := show ecn A19 (G18 31) = ec from ec33) (sy := sy) (e_sy := show G18 19 = sy from ((hF24.1 19 rfl).trans ((hF6.1 19 rfl).trans (e_sy)))) (i_SV := (SV_ext (((hF24.1 29 rfl).trans (hF6.1 29 rfl))) (((hF24.2 14 rfl).trans (hF6.2 14 rfl))) i_SV))   (p_0 := by omega) (p_1 := by omega) (p_2 := by omega) (p_3 := by omega) (p_4 := by omega) (p_5 := by omega)) (fun o V' hq => ?_)
      obtain ⟨G42, A43, r44, at2_45, fk2_46, op2_47, nd2_48, tk2_49, ec2_50, rfl, rfl, hW51, hF52, hQ53, b54, e55, e56, e57, e58, e59, e60, p61, p62, p63, p64, p65, p66, q67⟩ := hq
      have hF68 := Fr_tr hF31 hF52 (Fr_sub (by decide)) (Fr_sub (by decide))
      have hP69 := Pf_tr hP32 hQ53 (by omega)
      have bat2_45 : (0 : Int) ≤ at2_45 ∧ at2_45 ≤ 3002 := e55 ▸ hW51.1 10
      have bfk2_46 : (0 : Int) ≤ fk2_46 ∧ fk2_46 ≤ 6 := e56 ▸ hW51.1 16
      have bop2_47 : (-2147483648 : Int) ≤ op2_47 ∧ op2_47 ≤ 2147483647 := e57 ▸ hW51.1 15
      have bnd2_48 : (0 : Int) ≤ nd2_48 ∧ nd2_48 ≤ 6999 := e58 ▸ hW51.1 31
      have ztk2_49 := tz_b tk2_49
      have btk2_49 : (0 : Int) ≤ tk2_49 ∧ tk2_49 ≤ 5 := e59 ▸ hW51.1 11
      refine .inr ⟨_, rfl, ?_⟩
      rcases q67 with ⟨a70, a71, a72, a73, a74, a75⟩ | ⟨a76, a77, a78⟩ | ⟨a79, a80, a81, a82, a83, a84, a85⟩
      · have _q : True := trivial
        refine jx_ld (pc' := 14) (l' := jSto1 [(0, .ref 66)] 1 (.int (i32 (r44)))) (st' := []) rfl rfl ?_
        obtain ⟨L86, eL86⟩ : ∃ q, q = jSto1 [(0, .ref 66)] 1 (.int (i32 (r44))) := ⟨_, rfl⟩
        rw [← eL86]
        have gL86_0 : jGet L86 0 = some (.ref 66) := eL86 ▸ jg_ne (by decide) (rfl : jGet [(0, .ref 66)] 0 = some (.ref 66)) rfl
        have gL86_1 : jGet L86 1 = some (.int (i32 (r44))) := eL86 ▸ jg_eq
        refine jx_ld (pc' := 15) (l' := L86) (st' := [.ref 66]) rfl (jl_aloadn gL86_0) ?_
        refine jx_ld (pc' := 16) (l' := L86) (st' := [.ref 66, .ref 66]) rfl (jl_aloadn gL86_0) ?_
        refine jx_ar (pc' := 18) (st' := [.int (i32 (93)), .ref 66, .ref 66]) rfl rfl rfl rfl ?_
        have b87 : (-2147483648 : Int) ≤ G42 13 ∧ G42 13 ≤ 2147483647 := hW51.1 13
        refine jx_vr (pc' := 21) (as := [.int (i32 (93))]) (st := [.ref 66]) rfl rfl rfl rfl ⟨rfl, rfl, Nat.le_of_ble_eq_true rfl⟩ rfl rfl (c_is (dd := d) (hd := by omega) (hW := hW51) (k := 93) (tk := tk2_49) (e_tk := show G42 11 = tk2_49 from (e59)) (tn := G42 13) (e_tn := show G42 13 = G42 13 from rfl)  (h_k := ⟨(by decide), (by decide)⟩)  ) (fun o V' hq => ?_)
        obtain ⟨r88, rfl, rfl, b89, q90⟩ := hq
        refine .inr ⟨_, rfl, ?_⟩
        rcases q90 with ⟨rfl, a91, a92, a93⟩ | rfl
        · have _q : True := trivial
          refine jx_vr (pc' := 24) (as := [.int (i32 (1))]) (st := []) rfl rfl rfl rfl ⟨rfl, rfl, Nat.le_of_ble_eq_true rfl⟩ rfl rfl (c_need (dd := d) (hd := by omega) (hW := hW51) (g := 1) (ln := ln) (e_ln := show G42 9 = ln from ((hF52.1 9 rfl).trans ((hF24.1 9 rfl).trans ((hF6.1 9 rfl).trans (e_ln))))) (le := le) (e_le := show A43 4 (ln).toNat = le from (congrFun ((hF52.2 4 rfl).trans ((hF24.2 4 rfl).trans (hF6.2 4 rfl))) _).trans (e_le)) (at0 := at2_45) (e_at0 := show G42 10 = at2_45 from (e55)) (fk := fk2_46) (e_fk := show G42 16 = fk2_46 from (e56)) (tk0 := tk2_49) (e_tk0 := show G42 11 = tk2_49 from (e59))  (h_g := ⟨(by decide), (by decide)⟩)  (p_0 := by omega)) (fun o V' hq => ?_)
          obtain ⟨G94, A95, at2_96, tk2_97, fk2_98, rfl, rfl, hW99, hF100, e101, e102, e103, p104, p105, q106⟩ := hq
          have hF107 := Fr_tr hF68 hF100 (Fr_sub (by decide)) (Fr_sub (by decide))
          have hP108 := Pf_f hP69 hF100 (by decide)
          have ec109 : ecn A95 (G94 31) = ec2_50 := (ecn_f (hF100.2 15 rfl) (hF100.1 31 rfl)).trans e60
          have bat2_96 : (0 : Int) ≤ at2_96 ∧ at2_96 ≤ 3002 := e101 ▸ hW99.1 10
          have ztk2_97 := tz_b tk2_97
          have btk2_97 : (0 : Int) ≤ tk2_97 ∧ tk2_97 ≤ 5 := e102 ▸ hW99.1 11
          have bfk2_98 : (0 : Int) ≤ fk2_98 ∧ fk2_98 ≤ 6 := e103 ▸ hW99.1 16
          refine .inl ⟨rfl, ?_⟩
          rcases q106 with ⟨a110, a111, a112, a113⟩ | ⟨a114, a115, a116, a117⟩
          · have _q : True := trivial
            refine jx_ld (pc' := 25) (l' := L86) (st' := [.ref 66]) rfl (jl_aloadn gL86_0) ?_
            refine jx_ar (pc' := 26) (st' := [.ref 66, .ref 66]) rfl rfl rfl rfl ?_
            refine jr_get (pc' := 29) (i := 15) (v := .int (i32 (op2_47))) rfl rfl (by decide) (rFv_eq (by decide) (show G94 15 = op2_47 from ((hF100.1 15 rfl).trans (e57)))) rfl ?_
            refine jx_ar (pc' := 30) (st' := [.int (i32 (1)), .int (i32 (op2_47)), .ref 66]) rfl rfl rfl rfl ?_
            refine jx_sub (pc' := 31) rfl rfl ?_
            refine jr_put (pc' := 34) (i := 15) (z := (op2_47 - 1)) rfl rfl (by decide) rfl rfl rfl rfl rfl rfl ?_
            have hW118 : Wk (uG G94 15 ((op2_47 - 1))) A95 := Wk_g hW99 (show (-2147483648 : Int) ≤ (op2_47 - 1) by omega) (show (op2_47 - 1) ≤ (2147483647 : Int) by omega)
            have hF119 := Fr_g (z := (op2_47 - 1)) (i := 15) hF107 (by decide)
            have ec120 : ecn A95 ((uG G94 15 ((op2_47 - 1))) 31) = ec2_50 := ec109
            refine jx_ld (pc' := 35) (l' := L86) (st' := [.int (i32 (r44))]) rfl (jl_iloadn gL86_1) ?_
            refine jx_rt (v := some (.int (i32 (r44)))) rfl rfl rfl rfl rfl rfl ?_
            have z121 := tz_f (tk2_97)
            exact ⟨_, _, _, at2_96, fk2_98, (op2_47 - 1), nd2_48, tk2_97, ec2_50, rfl, rfl, hW118, hF119, hP108, by omega, (e101), (e103), rfl, ((hF100.1 31 rfl).trans (e58)), (e102), ec120, by omega, by omega, by omega, by omega, by omega, by omega, by first | exact Or.inl (⟨by omega, by omega, by omega⟩)⟩
          · have _q : True := trivial
            exfalso
            omega
        · have _q : True := trivial
          refine jx_vr (pc' := 24) (as := [.int (i32 (0))]) (st := []) rfl rfl rfl rfl ⟨rfl, rfl, Nat.le_of_ble_eq_true rfl⟩ rfl rfl (c_need (dd := d) (hd := by omega) (hW := hW51) (g := 0) (ln := ln) (e_ln := show G42 9 = ln from ((hF52.1 9 rfl).trans ((hF24.1 9 rfl).trans ((hF6.1 9 rfl).trans (e_ln))))) (le := le) (e_le := show A43 4 (ln).toNat = le from (congrFun ((hF52.2 4 rfl).trans ((hF24.2 4 rfl).trans (hF6.2 4 rfl))) _).trans (e_le)) (at0 := at2_45) (e_at0 := show G42 10 = at2_45 from (e55)) (fk := fk2_46) (e_fk := show G42 16 = fk2_46 from (e56)) (tk0 := tk2_49) (e_tk0 := show G42 11 = tk2_49 from (e59))  (h_g := ⟨(by decide), (by decide)⟩)  (p_0 := by omega)) (fun o V' hq => ?_)
          obtain ⟨G122, A123, at2_124, tk2_125, fk2_126, rfl, rfl, hW127, hF128, e129, e130, e131, p132, p133, q134⟩ := hq
          have hF135 := Fr_tr hF68 hF128 (Fr_sub (by decide)) (Fr_sub (by decide))
          have hP136 := Pf_f hP69 hF128 (by decide)
          have ec137 : ecn A123 (G122 31) = ec2_50 := (ecn_f (hF128.2 15 rfl) (hF128.1 31 rfl)).trans e60
          have bat2_124 : (0 : Int) ≤ at2_124 ∧ at2_124 ≤ 3002 := e129 ▸ hW127.1 10
          have ztk2_125 := tz_b tk2_125
          have btk2_125 : (0 : Int) ≤ tk2_125 ∧ tk2_125 ≤ 5 := e130 ▸ hW127.1 11
          have bfk2_126 : (0 : Int) ≤ fk2_126 ∧ fk2_126 ≤ 6 := e131 ▸ hW127.1 16
          refine .inl ⟨rfl, ?_⟩
          rcases q134 with ⟨a138, a139, a140, a141⟩ | ⟨a142, a143, a144, a145⟩
          · have _q : True := trivial
            refine jx_ld (pc' := 25) (l' := L86) (st' := [.ref 66]) rfl (jl_aloadn gL86_0) ?_
            refine jx_ar (pc' := 26) (st' := [.ref 66, .ref 66]) rfl rfl rfl rfl ?_
            refine jr_get (pc' := 29) (i := 15) (v := .int (i32 (op2_47))) rfl rfl (by decide) (rFv_eq (by decide) (show G122 15 = op2_47 from ((hF128.1 15 rfl).trans (e57)))) rfl ?_
            refine jx_ar (pc' := 30) (st' := [.int (i32 (1)), .int (i32 (op2_47)), .ref 66]) rfl rfl rfl rfl ?_
            refine jx_sub (pc' := 31) rfl rfl ?_
            refine jr_put (pc' := 34) (i := 15) (z := (op2_47 - 1)) rfl rfl (by decide) rfl rfl rfl rfl rfl rfl ?_
            have hW146 : Wk (uG G122 15 ((op2_47 - 1))) A123 := Wk_g hW127 (show (-2147483648 : Int) ≤ (op2_47 - 1) by omega) (show (op2_47 - 1) ≤ (2147483647 : Int) by omega)
            have hF147 := Fr_g (z := (op2_47 - 1)) (i := 15) hF135 (by decide)
            have ec148 : ecn A123 ((uG G122 15 ((op2_47 - 1))) 31) = ec2_50 := ec137
            refine jx_ld (pc' := 35) (l' := L86) (st' := [.int (i32 (r44))]) rfl (jl_iloadn gL86_1) ?_
            refine jx_rt (v := some (.int (i32 (r44)))) rfl rfl rfl rfl rfl rfl ?_
            have z149 := tz_f (tk2_125)
            exact ⟨_, _, _, at2_124, fk2_126, (op2_47 - 1), nd2_48, tk2_125, ec2_50, rfl, rfl, hW146, hF147, hP136, by omega, (e129), (e131), rfl, ((hF128.1 31 rfl).trans (e58)), (e130), ec148, by omega, by omega, by omega, by omega, by omega, by omega, by first | exact Or.inl (⟨by omega, by omega, by omega⟩)⟩
          · have _q : True := trivial
            exfalso
            omega
      · have _q : True := trivial
        exfalso
        omega
      · have _q : True := trivial
        exfalso
        omega
    · have _q : True := trivial
      exfalso
      omega
  · have _q : True := trivial
    refine jx_ld (pc' := 5) (l' := [(0, .ref 66)]) (st' := [.ref 66]) rfl (jl_aloadn rfl) ?_
    refine jx_ar (pc' := 6) (st' := [.int (i32 (1)), .ref 66]) rfl rfl rfl rfl ?_
    refine jx_vr (pc' := 9) (as := [.int (i32 (1))]) (st := []) rfl rfl rfl rfl ⟨rfl, rfl, Nat.le_of_ble_eq_true rfl⟩ rfl rfl (c_need (dd := d) (hd := by omega) (hW := hW5) (g := 1) (ln := ln) (e_ln := show G1 9 = ln from ((hF6.1 9 rfl).trans (e_ln))) (le := le) (e_le := show A2 4 (ln).toNat = le from (congrFun (hF6.2 4 rfl) _).trans (e_le)) (at0 := at0) (e_at0 := show G1 10 = at0 from ((hF6.1 10 rfl).trans (e_at0))) (fk := fk2_3) (e_fk := show G1 16 = fk2_3 from (e7)) (tk0 := tk0) (e_tk0 := show G1 11 = tk0 from ((hF6.1 11 rfl).trans (e_tk0)))  (h_g := ⟨(by decide), (by decide)⟩)  (p_0 := by omega)) (fun o V' hq => ?_)
    obtain ⟨G150, A151, at2_152, tk2_153, fk2_154, rfl, rfl, hW155, hF156, e157, e158, e159, p160, p161, q162⟩ := hq
    have hF163 := Fr_tr hF11 hF156 (Fr_sub (by decide)) (Fr_sub (by decide))
    have hP164 := Pf_f hP12 hF156 (by decide)
    have ec165 : ecn A151 (G150 31) = ec := (ecn_f (hF156.2 15 rfl) (hF156.1 31 rfl)).trans ec13
    have bat2_152 : (0 : Int) ≤ at2_152 ∧ at2_152 ≤ 3002 := e157 ▸ hW155.1 10
    have ztk2_153 := tz_b tk2_153
    have btk2_153 : (0 : Int) ≤ tk2_153 ∧ tk2_153 ≤ 5 := e158 ▸ hW155.1 11
    have bfk2_154 : (0 : Int) ≤ fk2_154 ∧ fk2_154 ≤ 6 := e159 ▸ hW155.1 16
    refine .inl ⟨rfl, ?_⟩
    rcases q162 with ⟨a166, a167, a168, a169⟩ | ⟨a170, a171, a172, a173⟩
    · have _q : True := trivial
      refine jx_ld (pc' := 10) (l' := [(0, .ref 66)]) (st' := [.ref 66]) rfl (jl_aloadn rfl) ?_
      refine jx_vr (pc' := 13) (as := []) (st := []) rfl rfl rfl rfl ⟨rfl, rfl, Nat.le_of_ble_eq_true rfl⟩ rfl rfl (hE (dd := d) (hd := by omega) (hW := hW155)  (ln := ln) (e_ln := show G150 9 = ln from ((hF156.1 9 rfl).trans ((hF6.1 9 rfl).trans (e_ln)))) (le := le) (e_le := show A151 4 (ln).toNat = le from (congrFun ((hF156.2 4 rfl).trans (hF6.2 4 rfl)) _).trans (e_le)) (at0 := at2_152) (e_at0 := show G150 10 = at2_152 from (e157)) (fk := fk2_154) (e_fk := show G150 16 = fk2_154 from (e159)) (op0 := op2_4) (e_op0 := show G150 15 = op2_4 from ((hF156.1 15 rfl).trans (e8))) (nd := nd) (e_nd := show G150 31 = nd from ((hF156.1 31 rfl).trans ((hF6.1 31 rfl).trans (e_nd)))) (tk0 := tk2_153) (e_tk0 := show G150 11 = tk2_153 from (e158)) (ec := ec) (e_ec := show ecn A151 (G150 31) = ec from ec165) (sy := sy) (e_sy := show G150 19 = sy from ((hF156.1 19 rfl).trans ((hF6.1 19 rfl).trans (e_sy)))) (i_SV := (SV_ext (((hF156.1 29 rfl).trans (hF6.1 29 rfl))) (((hF156.2 14 rfl).trans (hF6.2 14 rfl))) i_SV))   (p_0 := by omega) (p_1 := by omega) (p_2 := by omega) (p_3 := by omega) (p_4 := by omega) (p_5 := by omega)) (fun o V' hq => ?_)
      obtain ⟨G174, A175, r176, at2_177, fk2_178, op2_179, nd2_180, tk2_181, ec2_182, rfl, rfl, hW183, hF184, hQ185, b186, e187, e188, e189, e190, e191, e192, p193, p194, p195, p196, p197, p198, q199⟩ := hq
      have hF200 := Fr_tr hF163 hF184 (Fr_sub (by decide)) (Fr_sub (by decide))
      have hP201 := Pf_tr hP164 hQ185 (by omega)
      have bat2_177 : (0 : Int) ≤ at2_177 ∧ at2_177 ≤ 3002 := e187 ▸ hW183.1 10
      have bfk2_178 : (0 : Int) ≤ fk2_178 ∧ fk2_178 ≤ 6 := e188 ▸ hW183.1 16
      have bop2_179 : (-2147483648 : Int) ≤ op2_179 ∧ op2_179 ≤ 2147483647 := e189 ▸ hW183.1 15
      have bnd2_180 : (0 : Int) ≤ nd2_180 ∧ nd2_180 ≤ 6999 := e190 ▸ hW183.1 31
      have ztk2_181 := tz_b tk2_181
      have btk2_181 : (0 : Int) ≤ tk2_181 ∧ tk2_181 ≤ 5 := e191 ▸ hW183.1 11
      refine .inr ⟨_, rfl, ?_⟩
      rcases q199 with ⟨a202, a203, a204, a205, a206, a207⟩ | ⟨a208, a209, a210⟩ | ⟨a211, a212, a213, a214, a215, a216, a217⟩
      · have _q : True := trivial
        refine jx_ld (pc' := 14) (l' := jSto1 [(0, .ref 66)] 1 (.int (i32 (r176)))) (st' := []) rfl rfl ?_
        obtain ⟨L218, eL218⟩ : ∃ q, q = jSto1 [(0, .ref 66)] 1 (.int (i32 (r176))) := ⟨_, rfl⟩
        rw [← eL218]
        have gL218_0 : jGet L218 0 = some (.ref 66) := eL218 ▸ jg_ne (by decide) (rfl : jGet [(0, .ref 66)] 0 = some (.ref 66)) rfl
        have gL218_1 : jGet L218 1 = some (.int (i32 (r176))) := eL218 ▸ jg_eq
        refine jx_ld (pc' := 15) (l' := L218) (st' := [.ref 66]) rfl (jl_aloadn gL218_0) ?_
        refine jx_ld (pc' := 16) (l' := L218) (st' := [.ref 66, .ref 66]) rfl (jl_aloadn gL218_0) ?_
        refine jx_ar (pc' := 18) (st' := [.int (i32 (93)), .ref 66, .ref 66]) rfl rfl rfl rfl ?_
        have b219 : (-2147483648 : Int) ≤ G174 13 ∧ G174 13 ≤ 2147483647 := hW183.1 13
        refine jx_vr (pc' := 21) (as := [.int (i32 (93))]) (st := [.ref 66]) rfl rfl rfl rfl ⟨rfl, rfl, Nat.le_of_ble_eq_true rfl⟩ rfl rfl (c_is (dd := d) (hd := by omega) (hW := hW183) (k := 93) (tk := tk2_181) (e_tk := show G174 11 = tk2_181 from (e191)) (tn := G174 13) (e_tn := show G174 13 = G174 13 from rfl)  (h_k := ⟨(by decide), (by decide)⟩)  ) (fun o V' hq => ?_)
        obtain ⟨r220, rfl, rfl, b221, q222⟩ := hq
        refine .inr ⟨_, rfl, ?_⟩
        rcases q222 with ⟨rfl, a223, a224, a225⟩ | rfl
        · have _q : True := trivial
          refine jx_vr (pc' := 24) (as := [.int (i32 (1))]) (st := []) rfl rfl rfl rfl ⟨rfl, rfl, Nat.le_of_ble_eq_true rfl⟩ rfl rfl (c_need (dd := d) (hd := by omega) (hW := hW183) (g := 1) (ln := ln) (e_ln := show G174 9 = ln from ((hF184.1 9 rfl).trans ((hF156.1 9 rfl).trans ((hF6.1 9 rfl).trans (e_ln))))) (le := le) (e_le := show A175 4 (ln).toNat = le from (congrFun ((hF184.2 4 rfl).trans ((hF156.2 4 rfl).trans (hF6.2 4 rfl))) _).trans (e_le)) (at0 := at2_177) (e_at0 := show G174 10 = at2_177 from (e187)) (fk := fk2_178) (e_fk := show G174 16 = fk2_178 from (e188)) (tk0 := tk2_181) (e_tk0 := show G174 11 = tk2_181 from (e191))  (h_g := ⟨(by decide), (by decide)⟩)  (p_0 := by omega)) (fun o V' hq => ?_)
          obtain ⟨G226, A227, at2_228, tk2_229, fk2_230, rfl, rfl, hW231, hF232, e233, e234, e235, p236, p237, q238⟩ := hq
          have hF239 := Fr_tr hF200 hF232 (Fr_sub (by decide)) (Fr_sub (by decide))
          have hP240 := Pf_f hP201 hF232 (by decide)
          have ec241 : ecn A227 (G226 31) = ec2_182 := (ecn_f (hF232.2 15 rfl) (hF232.1 31 rfl)).trans e192
          have bat2_228 : (0 : Int) ≤ at2_228 ∧ at2_228 ≤ 3002 := e233 ▸ hW231.1 10
          have ztk2_229 := tz_b tk2_229
          have btk2_229 : (0 : Int) ≤ tk2_229 ∧ tk2_229 ≤ 5 := e234 ▸ hW231.1 11
          have bfk2_230 : (0 : Int) ≤ fk2_230 ∧ fk2_230 ≤ 6 := e235 ▸ hW231.1 16
          refine .inl ⟨rfl, ?_⟩
          rcases q238 with ⟨a242, a243, a244, a245⟩ | ⟨a246, a247, a248, a249⟩
          · have _q : True := trivial
            refine jx_ld (pc' := 25) (l' := L218) (st' := [.ref 66]) rfl (jl_aloadn gL218_0) ?_
            refine jx_ar (pc' := 26) (st' := [.ref 66, .ref 66]) rfl rfl rfl rfl ?_
            refine jr_get (pc' := 29) (i := 15) (v := .int (i32 (op2_179))) rfl rfl (by decide) (rFv_eq (by decide) (show G226 15 = op2_179 from ((hF232.1 15 rfl).trans (e189)))) rfl ?_
            refine jx_ar (pc' := 30) (st' := [.int (i32 (1)), .int (i32 (op2_179)), .ref 66]) rfl rfl rfl rfl ?_
            refine jx_sub (pc' := 31) rfl rfl ?_
            refine jr_put (pc' := 34) (i := 15) (z := (op2_179 - 1)) rfl rfl (by decide) rfl rfl rfl rfl rfl rfl ?_
            have hW250 : Wk (uG G226 15 ((op2_179 - 1))) A227 := Wk_g hW231 (show (-2147483648 : Int) ≤ (op2_179 - 1) by omega) (show (op2_179 - 1) ≤ (2147483647 : Int) by omega)
            have hF251 := Fr_g (z := (op2_179 - 1)) (i := 15) hF239 (by decide)
            have ec252 : ecn A227 ((uG G226 15 ((op2_179 - 1))) 31) = ec2_182 := ec241
            refine jx_ld (pc' := 35) (l' := L218) (st' := [.int (i32 (r176))]) rfl (jl_iloadn gL218_1) ?_
            refine jx_rt (v := some (.int (i32 (r176)))) rfl rfl rfl rfl rfl rfl ?_
            have z253 := tz_f (tk2_229)
            exact ⟨_, _, _, at2_228, fk2_230, (op2_179 - 1), nd2_180, tk2_229, ec2_182, rfl, rfl, hW250, hF251, hP240, by omega, (e233), (e235), rfl, ((hF232.1 31 rfl).trans (e190)), (e234), ec252, by omega, by omega, by omega, by omega, by omega, by omega, by first | exact Or.inl (⟨by omega, by omega, by omega⟩)⟩
          · have _q : True := trivial
            exfalso
            omega
        · have _q : True := trivial
          refine jx_vr (pc' := 24) (as := [.int (i32 (0))]) (st := []) rfl rfl rfl rfl ⟨rfl, rfl, Nat.le_of_ble_eq_true rfl⟩ rfl rfl (c_need (dd := d) (hd := by omega) (hW := hW183) (g := 0) (ln := ln) (e_ln := show G174 9 = ln from ((hF184.1 9 rfl).trans ((hF156.1 9 rfl).trans ((hF6.1 9 rfl).trans (e_ln))))) (le := le) (e_le := show A175 4 (ln).toNat = le from (congrFun ((hF184.2 4 rfl).trans ((hF156.2 4 rfl).trans (hF6.2 4 rfl))) _).trans (e_le)) (at0 := at2_177) (e_at0 := show G174 10 = at2_177 from (e187)) (fk := fk2_178) (e_fk := show G174 16 = fk2_178 from (e188)) (tk0 := tk2_181) (e_tk0 := show G174 11 = tk2_181 from (e191))  (h_g := ⟨(by decide), (by decide)⟩)  (p_0 := by omega)) (fun o V' hq => ?_)
          obtain ⟨G254, A255, at2_256, tk2_257, fk2_258, rfl, rfl, hW259, hF260, e261, e262, e263, p264, p265, q266⟩ := hq
          have hF267 := Fr_tr hF200 hF260 (Fr_sub (by decide)) (Fr_sub (by decide))
          have hP268 := Pf_f hP201 hF260 (by decide)
          have ec269 : ecn A255 (G254 31) = ec2_182 := (ecn_f (hF260.2 15 rfl) (hF260.1 31 rfl)).trans e192
          have bat2_256 : (0 : Int) ≤ at2_256 ∧ at2_256 ≤ 3002 := e261 ▸ hW259.1 10
          have ztk2_257 := tz_b tk2_257
          have btk2_257 : (0 : Int) ≤ tk2_257 ∧ tk2_257 ≤ 5 := e262 ▸ hW259.1 11
          have bfk2_258 : (0 : Int) ≤ fk2_258 ∧ fk2_258 ≤ 6 := e263 ▸ hW259.1 16
          refine .inl ⟨rfl, ?_⟩
          rcases q266 with ⟨a270, a271, a272, a273⟩ | ⟨a274, a275, a276, a277⟩
          · have _q : True := trivial
            refine jx_ld (pc' := 25) (l' := L218) (st' := [.ref 66]) rfl (jl_aloadn gL218_0) ?_
            refine jx_ar (pc' := 26) (st' := [.ref 66, .ref 66]) rfl rfl rfl rfl ?_
            refine jr_get (pc' := 29) (i := 15) (v := .int (i32 (op2_179))) rfl rfl (by decide) (rFv_eq (by decide) (show G254 15 = op2_179 from ((hF260.1 15 rfl).trans (e189)))) rfl ?_
            refine jx_ar (pc' := 30) (st' := [.int (i32 (1)), .int (i32 (op2_179)), .ref 66]) rfl rfl rfl rfl ?_
            refine jx_sub (pc' := 31) rfl rfl ?_
            refine jr_put (pc' := 34) (i := 15) (z := (op2_179 - 1)) rfl rfl (by decide) rfl rfl rfl rfl rfl rfl ?_
            have hW278 : Wk (uG G254 15 ((op2_179 - 1))) A255 := Wk_g hW259 (show (-2147483648 : Int) ≤ (op2_179 - 1) by omega) (show (op2_179 - 1) ≤ (2147483647 : Int) by omega)
            have hF279 := Fr_g (z := (op2_179 - 1)) (i := 15) hF267 (by decide)
            have ec280 : ecn A255 ((uG G254 15 ((op2_179 - 1))) 31) = ec2_182 := ec269
            refine jx_ld (pc' := 35) (l' := L218) (st' := [.int (i32 (r176))]) rfl (jl_iloadn gL218_1) ?_
            refine jx_rt (v := some (.int (i32 (r176)))) rfl rfl rfl rfl rfl rfl ?_
            have z281 := tz_f (tk2_257)
            exact ⟨_, _, _, at2_256, fk2_258, (op2_179 - 1), nd2_180, tk2_257, ec2_182, rfl, rfl, hW278, hF279, hP268, by omega, (e261), (e263), rfl, ((hF260.1 31 rfl).trans (e190)), (e262), ec280, by omega, by omega, by omega, by omega, by omega, by omega, by first | exact Or.inl (⟨by omega, by omega, by omega⟩)⟩
          · have _q : True := trivial
            exfalso
            omega
      · have _q : True := trivial
        exfalso
        omega
      · have _q : True := trivial
        exfalso
        omega
    · have _q : True := trivial
      have pz282 : at0 + tz tk2_153 ≤ at2_152 := by omega
      refine jx_ld (pc' := 10) (l' := [(0, .ref 66)]) (st' := [.ref 66]) rfl (jl_aloadn rfl) ?_
      refine jx_vr (pc' := 13) (as := []) (st := []) rfl rfl rfl rfl ⟨rfl, rfl, Nat.le_of_ble_eq_true rfl⟩ rfl rfl (hE (dd := d) (hd := by omega) (hW := hW155)  (ln := ln) (e_ln := show G150 9 = ln from ((hF156.1 9 rfl).trans ((hF6.1 9 rfl).trans (e_ln)))) (le := le) (e_le := show A151 4 (ln).toNat = le from (congrFun ((hF156.2 4 rfl).trans (hF6.2 4 rfl)) _).trans (e_le)) (at0 := at2_152) (e_at0 := show G150 10 = at2_152 from (e157)) (fk := fk2_154) (e_fk := show G150 16 = fk2_154 from (e159)) (op0 := op2_4) (e_op0 := show G150 15 = op2_4 from ((hF156.1 15 rfl).trans (e8))) (nd := nd) (e_nd := show G150 31 = nd from ((hF156.1 31 rfl).trans ((hF6.1 31 rfl).trans (e_nd)))) (tk0 := tk2_153) (e_tk0 := show G150 11 = tk2_153 from (e158)) (ec := ec) (e_ec := show ecn A151 (G150 31) = ec from ec165) (sy := sy) (e_sy := show G150 19 = sy from ((hF156.1 19 rfl).trans ((hF6.1 19 rfl).trans (e_sy)))) (i_SV := (SV_ext (((hF156.1 29 rfl).trans (hF6.1 29 rfl))) (((hF156.2 14 rfl).trans (hF6.2 14 rfl))) i_SV))   (p_0 := by omega) (p_1 := by omega) (p_2 := by omega) (p_3 := by omega) (p_4 := by omega) (p_5 := by omega)) (fun o V' hq => ?_)
      obtain ⟨G283, A284, r285, at2_286, fk2_287, op2_288, nd2_289, tk2_290, ec2_291, rfl, rfl, hW292, hF293, hQ294, b295, e296, e297, e298, e299, e300, e301, p302, p303, p304, p305, p306, p307, q308⟩ := hq
      have hF309 := Fr_tr hF163 hF293 (Fr_sub (by decide)) (Fr_sub (by decide))
      have hP310 := Pf_tr hP164 hQ294 (by omega)
      have bat2_286 : (0 : Int) ≤ at2_286 ∧ at2_286 ≤ 3002 := e296 ▸ hW292.1 10
      have bfk2_287 : (0 : Int) ≤ fk2_287 ∧ fk2_287 ≤ 6 := e297 ▸ hW292.1 16
      have bop2_288 : (-2147483648 : Int) ≤ op2_288 ∧ op2_288 ≤ 2147483647 := e298 ▸ hW292.1 15
      have bnd2_289 : (0 : Int) ≤ nd2_289 ∧ nd2_289 ≤ 6999 := e299 ▸ hW292.1 31
      have ztk2_290 := tz_b tk2_290
      have btk2_290 : (0 : Int) ≤ tk2_290 ∧ tk2_290 ≤ 5 := e300 ▸ hW292.1 11
      refine .inr ⟨_, rfl, ?_⟩
      rcases q308 with ⟨a311, a312, a313, a314, a315, a316⟩ | ⟨a317, a318, a319⟩ | ⟨a320, a321, a322, a323, a324, a325, a326⟩
      · have _q : True := trivial
        exfalso
        omega
      · have _q : True := trivial
        refine jx_ld (pc' := 14) (l' := jSto1 [(0, .ref 66)] 1 (.int (i32 (r285)))) (st' := []) rfl rfl ?_
        obtain ⟨L327, eL327⟩ : ∃ q, q = jSto1 [(0, .ref 66)] 1 (.int (i32 (r285))) := ⟨_, rfl⟩
        rw [← eL327]
        have gL327_0 : jGet L327 0 = some (.ref 66) := eL327 ▸ jg_ne (by decide) (rfl : jGet [(0, .ref 66)] 0 = some (.ref 66)) rfl
        have gL327_1 : jGet L327 1 = some (.int (i32 (r285))) := eL327 ▸ jg_eq
        refine jx_ld (pc' := 15) (l' := L327) (st' := [.ref 66]) rfl (jl_aloadn gL327_0) ?_
        refine jx_ld (pc' := 16) (l' := L327) (st' := [.ref 66, .ref 66]) rfl (jl_aloadn gL327_0) ?_
        refine jx_ar (pc' := 18) (st' := [.int (i32 (93)), .ref 66, .ref 66]) rfl rfl rfl rfl ?_
        have b328 : (-2147483648 : Int) ≤ G283 13 ∧ G283 13 ≤ 2147483647 := hW292.1 13
        refine jx_vr (pc' := 21) (as := [.int (i32 (93))]) (st := [.ref 66]) rfl rfl rfl rfl ⟨rfl, rfl, Nat.le_of_ble_eq_true rfl⟩ rfl rfl (c_is (dd := d) (hd := by omega) (hW := hW292) (k := 93) (tk := tk2_290) (e_tk := show G283 11 = tk2_290 from (e300)) (tn := G283 13) (e_tn := show G283 13 = G283 13 from rfl)  (h_k := ⟨(by decide), (by decide)⟩)  ) (fun o V' hq => ?_)
        obtain ⟨r329, rfl, rfl, b330, q331⟩ := hq
        refine .inr ⟨_, rfl, ?_⟩
        rcases q331 with ⟨rfl, a332, a333, a334⟩ | rfl
        · have _q : True := trivial
          refine jx_vr (pc' := 24) (as := [.int (i32 (1))]) (st := []) rfl rfl rfl rfl ⟨rfl, rfl, Nat.le_of_ble_eq_true rfl⟩ rfl rfl (c_need (dd := d) (hd := by omega) (hW := hW292) (g := 1) (ln := ln) (e_ln := show G283 9 = ln from ((hF293.1 9 rfl).trans ((hF156.1 9 rfl).trans ((hF6.1 9 rfl).trans (e_ln))))) (le := le) (e_le := show A284 4 (ln).toNat = le from (congrFun ((hF293.2 4 rfl).trans ((hF156.2 4 rfl).trans (hF6.2 4 rfl))) _).trans (e_le)) (at0 := at2_286) (e_at0 := show G283 10 = at2_286 from (e296)) (fk := fk2_287) (e_fk := show G283 16 = fk2_287 from (e297)) (tk0 := tk2_290) (e_tk0 := show G283 11 = tk2_290 from (e300))  (h_g := ⟨(by decide), (by decide)⟩)  (p_0 := by omega)) (fun o V' hq => ?_)
          obtain ⟨G335, A336, at2_337, tk2_338, fk2_339, rfl, rfl, hW340, hF341, e342, e343, e344, p345, p346, q347⟩ := hq
          have hF348 := Fr_tr hF309 hF341 (Fr_sub (by decide)) (Fr_sub (by decide))
          have hP349 := Pf_f hP310 hF341 (by decide)
          have ec350 : ecn A336 (G335 31) = ec2_291 := (ecn_f (hF341.2 15 rfl) (hF341.1 31 rfl)).trans e301
          have bat2_337 : (0 : Int) ≤ at2_337 ∧ at2_337 ≤ 3002 := e342 ▸ hW340.1 10
          have ztk2_338 := tz_b tk2_338
          have btk2_338 : (0 : Int) ≤ tk2_338 ∧ tk2_338 ≤ 5 := e343 ▸ hW340.1 11
          have bfk2_339 : (0 : Int) ≤ fk2_339 ∧ fk2_339 ≤ 6 := e344 ▸ hW340.1 16
          refine .inl ⟨rfl, ?_⟩
          rcases q347 with ⟨a351, a352, a353, a354⟩ | ⟨a355, a356, a357, a358⟩
          · have _q : True := trivial
            refine jx_ld (pc' := 25) (l' := L327) (st' := [.ref 66]) rfl (jl_aloadn gL327_0) ?_
            refine jx_ar (pc' := 26) (st' := [.ref 66, .ref 66]) rfl rfl rfl rfl ?_
            refine jr_get (pc' := 29) (i := 15) (v := .int (i32 (op2_288))) rfl rfl (by decide) (rFv_eq (by decide) (show G335 15 = op2_288 from ((hF341.1 15 rfl).trans (e298)))) rfl ?_
            refine jx_ar (pc' := 30) (st' := [.int (i32 (1)), .int (i32 (op2_288)), .ref 66]) rfl rfl rfl rfl ?_
            refine jx_sub (pc' := 31) rfl rfl ?_
            refine jr_put (pc' := 34) (i := 15) (z := (op2_288 - 1)) rfl rfl (by decide) rfl rfl rfl rfl rfl rfl ?_
            have hW359 : Wk (uG G335 15 ((op2_288 - 1))) A336 := Wk_g hW340 (show (-2147483648 : Int) ≤ (op2_288 - 1) by omega) (show (op2_288 - 1) ≤ (2147483647 : Int) by omega)
            have hF360 := Fr_g (z := (op2_288 - 1)) (i := 15) hF348 (by decide)
            have ec361 : ecn A336 ((uG G335 15 ((op2_288 - 1))) 31) = ec2_291 := ec350
            refine jx_ld (pc' := 35) (l' := L327) (st' := [.int (i32 (r285))]) rfl (jl_iloadn gL327_1) ?_
            refine jx_rt (v := some (.int (i32 (r285)))) rfl rfl rfl rfl rfl rfl ?_
            have z362 := tz_f (tk2_338)
            exact ⟨_, _, _, at2_337, fk2_339, (op2_288 - 1), nd2_289, tk2_338, ec2_291, rfl, rfl, hW359, hF360, hP349, by omega, (e342), (e344), rfl, ((hF341.1 31 rfl).trans (e299)), (e343), ec361, by omega, by omega, by omega, by omega, by omega, by omega, by first | exact Or.inl (⟨by omega, by omega, by omega⟩)⟩
          · have _q : True := trivial
            exfalso
            omega
        · have _q : True := trivial
          refine jx_vr (pc' := 24) (as := [.int (i32 (0))]) (st := []) rfl rfl rfl rfl ⟨rfl, rfl, Nat.le_of_ble_eq_true rfl⟩ rfl rfl (c_need (dd := d) (hd := by omega) (hW := hW292) (g := 0) (ln := ln) (e_ln := show G283 9 = ln from ((hF293.1 9 rfl).trans ((hF156.1 9 rfl).trans ((hF6.1 9 rfl).trans (e_ln))))) (le := le) (e_le := show A284 4 (ln).toNat = le from (congrFun ((hF293.2 4 rfl).trans ((hF156.2 4 rfl).trans (hF6.2 4 rfl))) _).trans (e_le)) (at0 := at2_286) (e_at0 := show G283 10 = at2_286 from (e296)) (fk := fk2_287) (e_fk := show G283 16 = fk2_287 from (e297)) (tk0 := tk2_290) (e_tk0 := show G283 11 = tk2_290 from (e300))  (h_g := ⟨(by decide), (by decide)⟩)  (p_0 := by omega)) (fun o V' hq => ?_)
          obtain ⟨G363, A364, at2_365, tk2_366, fk2_367, rfl, rfl, hW368, hF369, e370, e371, e372, p373, p374, q375⟩ := hq
          have hF376 := Fr_tr hF309 hF369 (Fr_sub (by decide)) (Fr_sub (by decide))
          have hP377 := Pf_f hP310 hF369 (by decide)
          have ec378 : ecn A364 (G363 31) = ec2_291 := (ecn_f (hF369.2 15 rfl) (hF369.1 31 rfl)).trans e301
          have bat2_365 : (0 : Int) ≤ at2_365 ∧ at2_365 ≤ 3002 := e370 ▸ hW368.1 10
          have ztk2_366 := tz_b tk2_366
          have btk2_366 : (0 : Int) ≤ tk2_366 ∧ tk2_366 ≤ 5 := e371 ▸ hW368.1 11
          have bfk2_367 : (0 : Int) ≤ fk2_367 ∧ fk2_367 ≤ 6 := e372 ▸ hW368.1 16
          refine .inl ⟨rfl, ?_⟩
          rcases q375 with ⟨a379, a380, a381, a382⟩ | ⟨a383, a384, a385, a386⟩
          · have _q : True := trivial
            refine jx_ld (pc' := 25) (l' := L327) (st' := [.ref 66]) rfl (jl_aloadn gL327_0) ?_
            refine jx_ar (pc' := 26) (st' := [.ref 66, .ref 66]) rfl rfl rfl rfl ?_
            refine jr_get (pc' := 29) (i := 15) (v := .int (i32 (op2_288))) rfl rfl (by decide) (rFv_eq (by decide) (show G363 15 = op2_288 from ((hF369.1 15 rfl).trans (e298)))) rfl ?_
            refine jx_ar (pc' := 30) (st' := [.int (i32 (1)), .int (i32 (op2_288)), .ref 66]) rfl rfl rfl rfl ?_
            refine jx_sub (pc' := 31) rfl rfl ?_
            refine jr_put (pc' := 34) (i := 15) (z := (op2_288 - 1)) rfl rfl (by decide) rfl rfl rfl rfl rfl rfl ?_
            have hW387 : Wk (uG G363 15 ((op2_288 - 1))) A364 := Wk_g hW368 (show (-2147483648 : Int) ≤ (op2_288 - 1) by omega) (show (op2_288 - 1) ≤ (2147483647 : Int) by omega)
            have hF388 := Fr_g (z := (op2_288 - 1)) (i := 15) hF376 (by decide)
            have ec389 : ecn A364 ((uG G363 15 ((op2_288 - 1))) 31) = ec2_291 := ec378
            refine jx_ld (pc' := 35) (l' := L327) (st' := [.int (i32 (r285))]) rfl (jl_iloadn gL327_1) ?_
            refine jx_rt (v := some (.int (i32 (r285)))) rfl rfl rfl rfl rfl rfl ?_
            have z390 := tz_f (tk2_366)
            exact ⟨_, _, _, at2_365, fk2_367, (op2_288 - 1), nd2_289, tk2_366, ec2_291, rfl, rfl, hW387, hF388, hP377, by omega, (e370), (e372), rfl, ((hF369.1 31 rfl).trans (e299)), (e371), ec389, by omega, by omega, by omega, by omega, by omega, by omega, by first | exact Or.inl (⟨by omega, by omega, by omega⟩)⟩
          · have _q : True := trivial
            exfalso
            omega
      · have _q : True := trivial
        refine jx_ld (pc' := 14) (l' := jSto1 [(0, .ref 66)] 1 (.int (i32 (r285)))) (st' := []) rfl rfl ?_
        obtain ⟨L391, eL391⟩ : ∃ q, q = jSto1 [(0, .ref 66)] 1 (.int (i32 (r285))) := ⟨_, rfl⟩
        rw [← eL391]
        have gL391_0 : jGet L391 0 = some (.ref 66) := eL391 ▸ jg_ne (by decide) (rfl : jGet [(0, .ref 66)] 0 = some (.ref 66)) rfl
        have gL391_1 : jGet L391 1 = some (.int (i32 (r285))) := eL391 ▸ jg_eq
        refine jx_ld (pc' := 15) (l' := L391) (st' := [.ref 66]) rfl (jl_aloadn gL391_0) ?_
        refine jx_ld (pc' := 16) (l' := L391) (st' := [.ref 66, .ref 66]) rfl (jl_aloadn gL391_0) ?_
        refine jx_ar (pc' := 18) (st' := [.int (i32 (93)), .ref 66, .ref 66]) rfl rfl rfl rfl ?_
        have b392 : (-2147483648 : Int) ≤ G283 13 ∧ G283 13 ≤ 2147483647 := hW292.1 13
        refine jx_vr (pc' := 21) (as := [.int (i32 (93))]) (st := [.ref 66]) rfl rfl rfl rfl ⟨rfl, rfl, Nat.le_of_ble_eq_true rfl⟩ rfl rfl (c_is (dd := d) (hd := by omega) (hW := hW292) (k := 93) (tk := tk2_290) (e_tk := show G283 11 = tk2_290 from (e300)) (tn := G283 13) (e_tn := show G283 13 = G283 13 from rfl)  (h_k := ⟨(by decide), (by decide)⟩)  ) (fun o V' hq => ?_)
        obtain ⟨r393, rfl, rfl, b394, q395⟩ := hq
        refine .inr ⟨_, rfl, ?_⟩
        rcases q395 with ⟨rfl, a396, a397, a398⟩ | rfl
        · have _q : True := trivial
          refine jx_vr (pc' := 24) (as := [.int (i32 (1))]) (st := []) rfl rfl rfl rfl ⟨rfl, rfl, Nat.le_of_ble_eq_true rfl⟩ rfl rfl (c_need (dd := d) (hd := by omega) (hW := hW292) (g := 1) (ln := ln) (e_ln := show G283 9 = ln from ((hF293.1 9 rfl).trans ((hF156.1 9 rfl).trans ((hF6.1 9 rfl).trans (e_ln))))) (le := le) (e_le := show A284 4 (ln).toNat = le from (congrFun ((hF293.2 4 rfl).trans ((hF156.2 4 rfl).trans (hF6.2 4 rfl))) _).trans (e_le)) (at0 := at2_286) (e_at0 := show G283 10 = at2_286 from (e296)) (fk := fk2_287) (e_fk := show G283 16 = fk2_287 from (e297)) (tk0 := tk2_290) (e_tk0 := show G283 11 = tk2_290 from (e300))  (h_g := ⟨(by decide), (by decide)⟩)  (p_0 := by omega)) (fun o V' hq => ?_)
          obtain ⟨G399, A400, at2_401, tk2_402, fk2_403, rfl, rfl, hW404, hF405, e406, e407, e408, p409, p410, q411⟩ := hq
          have hF412 := Fr_tr hF309 hF405 (Fr_sub (by decide)) (Fr_sub (by decide))
          have hP413 := Pf_f hP310 hF405 (by decide)
          have sf414 : wE A400 Vs sb (2 * k + 2) (r285) (nd) (nd2_289) := wE_ag (by omega) (Sg_fr hF405 (by decide)) (Ag_fr hF405 (by decide)) a323
          have sf415 : NdM A400 (nd) (nd2_289) (sy) := NdM_f hF405 (by decide) a325
          have ec416 : ecn A400 (G399 31) = ec2_291 := (ecn_f (hF405.2 15 rfl) (hF405.1 31 rfl)).trans e301
          have bat2_401 : (0 : Int) ≤ at2_401 ∧ at2_401 ≤ 3002 := e406 ▸ hW404.1 10
          have ztk2_402 := tz_b tk2_402
          have btk2_402 : (0 : Int) ≤ tk2_402 ∧ tk2_402 ≤ 5 := e407 ▸ hW404.1 11
          have bfk2_403 : (0 : Int) ≤ fk2_403 ∧ fk2_403 ≤ 6 := e408 ▸ hW404.1 16
          refine .inl ⟨rfl, ?_⟩
          rcases q411 with ⟨a417, a418, a419, a420⟩ | ⟨a421, a422, a423, a424⟩
          · have _q : True := trivial
            refine jx_ld (pc' := 25) (l' := L391) (st' := [.ref 66]) rfl (jl_aloadn gL391_0) ?_
            refine jx_ar (pc' := 26) (st' := [.ref 66, .ref 66]) rfl rfl rfl rfl ?_
            refine jr_get (pc' := 29) (i := 15) (v := .int (i32 (op2_288))) rfl rfl (by decide) (rFv_eq (by decide) (show G399 15 = op2_288 from ((hF405.1 15 rfl).trans (e298)))) rfl ?_
            refine jx_ar (pc' := 30) (st' := [.int (i32 (1)), .int (i32 (op2_288)), .ref 66]) rfl rfl rfl rfl ?_
            refine jx_sub (pc' := 31) rfl rfl ?_
            refine jr_put (pc' := 34) (i := 15) (z := (op2_288 - 1)) rfl rfl (by decide) rfl rfl rfl rfl rfl rfl ?_
            have hW425 : Wk (uG G399 15 ((op2_288 - 1))) A400 := Wk_g hW404 (show (-2147483648 : Int) ≤ (op2_288 - 1) by omega) (show (op2_288 - 1) ≤ (2147483647 : Int) by omega)
            have hF426 := Fr_g (z := (op2_288 - 1)) (i := 15) hF412 (by decide)
            have ec427 : ecn A400 ((uG G399 15 ((op2_288 - 1))) 31) = ec2_291 := ec416
            refine jx_ld (pc' := 35) (l' := L391) (st' := [.int (i32 (r285))]) rfl (jl_iloadn gL391_1) ?_
            refine jx_rt (v := some (.int (i32 (r285)))) rfl rfl rfl rfl rfl rfl ?_
            have z428 := tz_f (tk2_402)
            exact ⟨_, _, _, at2_401, fk2_403, (op2_288 - 1), nd2_289, tk2_402, ec2_291, rfl, rfl, hW425, hF426, hP413, by omega, (e406), (e408), rfl, ((hF405.1 31 rfl).trans (e299)), (e407), ec427, by omega, by omega, by omega, by omega, by omega, by omega, by first | exact Or.inl (⟨by omega, by omega, by omega⟩)⟩
          · have _q : True := trivial
            have pz429 : at2_286 + tz tk2_402 ≤ at2_401 := by omega
            refine jx_ld (pc' := 25) (l' := L391) (st' := [.ref 66]) rfl (jl_aloadn gL391_0) ?_
            refine jx_ar (pc' := 26) (st' := [.ref 66, .ref 66]) rfl rfl rfl rfl ?_
            refine jr_get (pc' := 29) (i := 15) (v := .int (i32 (op2_288))) rfl rfl (by decide) (rFv_eq (by decide) (show G399 15 = op2_288 from ((hF405.1 15 rfl).trans (e298)))) rfl ?_
            refine jx_ar (pc' := 30) (st' := [.int (i32 (1)), .int (i32 (op2_288)), .ref 66]) rfl rfl rfl rfl ?_
            refine jx_sub (pc' := 31) rfl rfl ?_
            refine jr_put (pc' := 34) (i := 15) (z := (op2_288 - 1)) rfl rfl (by decide) rfl rfl rfl rfl rfl rfl ?_
            have hW430 : Wk (uG G399 15 ((op2_288 - 1))) A400 := Wk_g hW404 (show (-2147483648 : Int) ≤ (op2_288 - 1) by omega) (show (op2_288 - 1) ≤ (2147483647 : Int) by omega)
            have hF431 := Fr_g (z := (op2_288 - 1)) (i := 15) hF412 (by decide)
            have ec432 : ecn A400 ((uG G399 15 ((op2_288 - 1))) 31) = ec2_291 := ec416
            refine jx_ld (pc' := 35) (l' := L391) (st' := [.int (i32 (r285))]) rfl (jl_iloadn gL391_1) ?_
            refine jx_rt (v := some (.int (i32 (r285)))) rfl rfl rfl rfl rfl rfl ?_
            have z433 := tz_f (tk2_402)
            exact ⟨_, _, _, at2_401, fk2_403, (op2_288 - 1), nd2_289, tk2_402, ec2_291, rfl, rfl, hW430, hF431, hP413, by omega, (e406), (e408), rfl, ((hF405.1 31 rfl).trans (e299)), (e407), ec432, by omega, by omega, by omega, by omega, by omega, by omega, by first | exact Or.inr ((⟨by omega, by omega, by omega, sf414, by omega, sf415⟩))⟩
        · have _q : True := trivial
          refine jx_vr (pc' := 24) (as := [.int (i32 (0))]) (st := []) rfl rfl rfl rfl ⟨rfl, rfl, Nat.le_of_ble_eq_true rfl⟩ rfl rfl (c_need (dd := d) (hd := by omega) (hW := hW292) (g := 0) (ln := ln) (e_ln := show G283 9 = ln from ((hF293.1 9 rfl).trans ((hF156.1 9 rfl).trans ((hF6.1 9 rfl).trans (e_ln))))) (le := le) (e_le := show A284 4 (ln).toNat = le from (congrFun ((hF293.2 4 rfl).trans ((hF156.2 4 rfl).trans (hF6.2 4 rfl))) _).trans (e_le)) (at0 := at2_286) (e_at0 := show G283 10 = at2_286 from (e296)) (fk := fk2_287) (e_fk := show G283 16 = fk2_287 from (e297)) (tk0 := tk2_290) (e_tk0 := show G283 11 = tk2_290 from (e300))  (h_g := ⟨(by decide), (by decide)⟩)  (p_0 := by omega)) (fun o V' hq => ?_)
          obtain ⟨G434, A435, at2_436, tk2_437, fk2_438, rfl, rfl, hW439, hF440, e441, e442, e443, p444, p445, q446⟩ := hq
          have hF447 := Fr_tr hF309 hF440 (Fr_sub (by decide)) (Fr_sub (by decide))
          have hP448 := Pf_f hP310 hF440 (by decide)
          have sf449 : wE A435 Vs sb (2 * k + 2) (r285) (nd) (nd2_289) := wE_ag (by omega) (Sg_fr hF440 (by decide)) (Ag_fr hF440 (by decide)) a323
          have sf450 : NdM A435 (nd) (nd2_289) (sy) := NdM_f hF440 (by decide) a325
          have ec451 : ecn A435 (G434 31) = ec2_291 := (ecn_f (hF440.2 15 rfl) (hF440.1 31 rfl)).trans e301
          have bat2_436 : (0 : Int) ≤ at2_436 ∧ at2_436 ≤ 3002 := e441 ▸ hW439.1 10
          have ztk2_437 := tz_b tk2_437
          have btk2_437 : (0 : Int) ≤ tk2_437 ∧ tk2_437 ≤ 5 := e442 ▸ hW439.1 11
          have bfk2_438 : (0 : Int) ≤ fk2_438 ∧ fk2_438 ≤ 6 := e443 ▸ hW439.1 16
          refine .inl ⟨rfl, ?_⟩
          rcases q446 with ⟨a452, a453, a454, a455⟩ | ⟨a456, a457, a458, a459⟩
          · have _q : True := trivial
            refine jx_ld (pc' := 25) (l' := L391) (st' := [.ref 66]) rfl (jl_aloadn gL391_0) ?_
            refine jx_ar (pc' := 26) (st' := [.ref 66, .ref 66]) rfl rfl rfl rfl ?_
            refine jr_get (pc' := 29) (i := 15) (v := .int (i32 (op2_288))) rfl rfl (by decide) (rFv_eq (by decide) (show G434 15 = op2_288 from ((hF440.1 15 rfl).trans (e298)))) rfl ?_
            refine jx_ar (pc' := 30) (st' := [.int (i32 (1)), .int (i32 (op2_288)), .ref 66]) rfl rfl rfl rfl ?_
            refine jx_sub (pc' := 31) rfl rfl ?_
            refine jr_put (pc' := 34) (i := 15) (z := (op2_288 - 1)) rfl rfl (by decide) rfl rfl rfl rfl rfl rfl ?_
            have hW460 : Wk (uG G434 15 ((op2_288 - 1))) A435 := Wk_g hW439 (show (-2147483648 : Int) ≤ (op2_288 - 1) by omega) (show (op2_288 - 1) ≤ (2147483647 : Int) by omega)
            have hF461 := Fr_g (z := (op2_288 - 1)) (i := 15) hF447 (by decide)
            have ec462 : ecn A435 ((uG G434 15 ((op2_288 - 1))) 31) = ec2_291 := ec451
            refine jx_ld (pc' := 35) (l' := L391) (st' := [.int (i32 (r285))]) rfl (jl_iloadn gL391_1) ?_
            refine jx_rt (v := some (.int (i32 (r285)))) rfl rfl rfl rfl rfl rfl ?_
            have z463 := tz_f (tk2_437)
            exact ⟨_, _, _, at2_436, fk2_438, (op2_288 - 1), nd2_289, tk2_437, ec2_291, rfl, rfl, hW460, hF461, hP448, by omega, (e441), (e443), rfl, ((hF440.1 31 rfl).trans (e299)), (e442), ec462, by omega, by omega, by omega, by omega, by omega, by omega, by first | exact Or.inl (⟨by omega, by omega, by omega⟩)⟩
          · have _q : True := trivial
            exfalso
            omega
set_option maxRecDepth 20000 in
set_option maxHeartbeats 4000000 in
theorem c_readValue_w {X : jX} {k : Nat} (hE : REw X k) {dd : Nat} {Vs : Nat → Prop} {sb : Int} {c0 c1 : jC} {G : Nat → Int} {A : Nat → Nat → Int} {T : jH} {s place : Int} {ln le at0 fk op0 nd tk0 ec sy : Int} (hd : 6 * k + 13 ≤ dd) (hW : Wk G A) (e_ln : G 9 = ln) (e_le : A 4 (ln).toNat = le) (e_at0 : G 10 = at0) (e_fk : G 16 = fk) (e_op0 : G 15 = op0) (e_nd : G 31 = nd) (e_tk0 : G 11 = tk0) (e_ec : ecn A (G 31) = ec) (e_sy : G 19 = sy) (i_SV : SV Vs sb G A) (h_s : (-2147483648 : Int) ≤ s ∧ s ≤ 2147483647) (h_place : (-2147483648 : Int) ≤ place ∧ place ≤ 2147483647) (p_0 : 0 ≤ op0) (p_1 : op0 ≤ 9) (p_2 : op0 ≤ 8 ∨ 1 ≤ fk) (p_3 : 9 - op0 ≤ ((k + 1 : Nat) : Int) ∨ 1 ≤ fk) (p_4 : nd ≤ 2 * at0 - tz tk0 + 50) (p_5 : at0 ≤ le) (p_6 : op0 ≤ 8) (p_7 : fk = 0) (p_8 : 0 ≤ s ∧ s ≤ 201) (p_9 : -3000 ≤ place ∧ place ≤ 3002) (p_10 : SY Vs sb (s)) : wk X dd 289 [.ref 66, .int (i32 s), .int (i32 place)] (rV c0 c1 G A T) (fun o V' => ∃ (G' : Nat → Int) (A' : Nat → Nat → Int) (r : Int) (at2 : Int) (fk2 : Int) (op2 : Int) (nd2 : Int) (tk2 : Int) (ec2 : Int), V' = rV c0 c1 G' A' T ∧ o = .inl (some (.int (i32 r))) ∧ Wk G' A' ∧ Fr [10, 11, 12, 13, 14, 15, 16, 17, 18, 31] [15, 16, 17, 18, 19, 20, 21, 22, 24, 28] G A G' A' ∧ Pf nd A A' ∧ ((-2147483648 : Int) ≤ r ∧ r ≤ 2147483647) ∧ G' 10 = at2 ∧ G' 16 = fk2 ∧ G' 15 = op2 ∧ G' 31 = nd2 ∧ G' 11 = tk2 ∧ ecn A' (G' 31) = ec2 ∧ (at0 ≤ at2) ∧ (at2 ≤ le) ∧ (nd ≤ nd2) ∧ (op2 = op0) ∧ (0 ≤ r) ∧ (r ≤ nd2) ∧ (((fk = 0) ∧ (1 ≤ fk2) ∧ (nd2 - nd ≤ (2 * at2 - tz tk2) - (2 * at0 - tz tk0) + 2)) ∨ ((fk = 0) ∧ (fk2 = 0) ∧ (nd2 - nd ≤ (2 * at2 - tz tk2) - (2 * at0 - tz tk0) + 1) ∧ (wE A' Vs sb (2 * k + 3) (r) (nd) (nd2)) ∧ (nd2 - nd + 5 * (ec2 - ec) ≤ (2 * at2 - tz tk2) - (2 * at0 - tz tk0) + 1 + tz tk0 - tz tk2) ∧ (NdM A' (nd) (nd2) (sy))))) := by
  obtain ⟨d, rfl⟩ : ∃ d, dd = d + 1 := ⟨dd - 1, by omega⟩
  refine wk_of (e := jm289) rfl (Nat.le_of_ble_eq_true rfl) ?_
  show wj X d jm289 (0, [(0, .ref 66), (1, .int (i32 (s))), (2, .int (i32 (place)))], [], rV c0 c1 G A T) _
  have hF0 : Fr [10, 11, 12, 13, 14, 15, 16, 17, 18, 31] [15, 16, 17, 18, 19, 20, 21, 22, 24, 28] G A G A := Fr_rf
  have hP0 : Pf nd A A := Pf_rf
  have b_ln : (0 : Int) ≤ ln ∧ ln ≤ 3000 := e_ln ▸ hW.1 9
  have b_le : (0 : Int) ≤ le ∧ le ≤ 3000 := e_le ▸ hW.2 4 _
  have b_at0 : (0 : Int) ≤ at0 ∧ at0 ≤ 3002 := e_at0 ▸ hW.1 10
  have b_fk : (0 : Int) ≤ fk ∧ fk ≤ 6 := e_fk ▸ hW.1 16
  have b_op0 : (-2147483648 : Int) ≤ op0 ∧ op0 ≤ 2147483647 := e_op0 ▸ hW.1 15
  have b_nd : (0 : Int) ≤ nd ∧ nd ≤ 6999 := e_nd ▸ hW.1 31
  have z_tk0 := tz_f tk0
  have b_tk0 : (0 : Int) ≤ tk0 ∧ tk0 ≤ 5 := e_tk0 ▸ hW.1 11
  have b_sy : (0 : Int) ≤ sy ∧ sy ≤ 202 := e_sy ▸ hW.1 19
  refine jx_ld (pc' := 1) (l' := [(0, .ref 66), (1, .int (i32 (s))), (2, .int (i32 (place)))]) (st' := [.ref 66]) rfl (jl_aloadn rfl) ?_
  refine jx_ar (pc' := 3) (st' := [.int (i32 (91)), .ref 66]) rfl rfl rfl rfl ?_
  have b1 : (-2147483648 : Int) ≤ G 13 ∧ G 13 ≤ 2147483647 := hW.1 13
  refine jx_vr (pc' := 6) (as := [.int (i32 (91))]) (st := []) rfl rfl rfl rfl ⟨rfl, rfl, Nat.le_of_ble_eq_true rfl⟩ rfl rfl (c_is (dd := d) (hd := by omega) (hW := hW) (k := 91) (tk := tk0) (e_tk := show G 11 = tk0 from (e_tk0)) (tn := G 13) (e_tn := show G 13 = G 13 from rfl)  (h_k := ⟨(by decide), (by decide)⟩)  ) (fun o V' hq => ?_)
  obtain ⟨r2, rfl, rfl, b3, q4⟩ := hq
  refine .inr ⟨_, rfl, ?_⟩
  rcases q4 with ⟨rfl, a5, a6, a7⟩ | rfl
  · have _q : True := trivial
    refine jx_if_eq (pc' := 9) (tg := 44) rfl rfl rfl (by decide) (by decide) (fun h8 => ?_) (fun h8 => ?_)
    · have _q := h8
      exact absurd h8 (by omega)
    · have _q := h8
      refine jx_ld (pc' := 10) (l' := [(0, .ref 66), (1, .int (i32 (s))), (2, .int (i32 (place)))]) (st' := [.ref 66]) rfl (jl_aloadn rfl) ?_
      refine jr_get (pc' := 13) (i := 21) (v := .ref 74) rfl rfl (by decide) rfl rfl ?_
      refine jx_ld (pc' := 14) (l' := [(0, .ref 66), (1, .int (i32 (s))), (2, .int (i32 (place)))]) (st' := [.int (i32 (s)), .ref 74]) rfl (jl_iloadn rfl) ?_
      have b9 : (0 : Int) ≤ A 7 (s).toNat ∧ A 7 (s).toNat ≤ 14 := hW.2 7 _
      refine jr_ldv (pc' := 15) (i := 7) (m := 260) (z := s) (y := A 7 (s).toNat) rfl (by decide) rfl (by decide) (by omega) (by omega) rfl (show A 7 (s).toNat = A 7 (s).toNat from rfl) ?_
      refine jx_st (pc' := 18) (as := [.int (i32 (A 7 (s).toNat))]) (st := []) rfl rfl ⟨rfl, Nat.le_of_ble_eq_true rfl⟩ rfl rfl rfl (c_isArray (dd := d) (hd := by omega) (k := A 7 (s).toNat)   (h_k := ⟨(Int.le_trans (by decide : (-2147483648 : Int) ≤ 0) b9.1), (Int.le_trans b9.2 (by decide : (14 : Int) ≤ 2147483647))⟩)  ) (fun o V' hq => ?_)
      obtain ⟨r10, rfl, rfl, b11, q12⟩ := hq
      refine .inr ⟨_, rfl, ?_⟩
      rcases q12 with ⟨rfl, a13⟩ | rfl
      · have _q : True := trivial
        refine jx_if_ne (pc' := 21) (tg := 29) rfl rfl rfl (by decide) (by decide) (fun h14 => ?_) (fun h14 => ?_)
        · have _q := h14
          refine jx_ld (pc' := 30) (l' := [(0, .ref 66), (1, .int (i32 (s))), (2, .int (i32 (place)))]) (st' := [.ref 66]) rfl (jl_aloadn rfl) ?_
          refine jx_vr (pc' := 33) (as := []) (st := []) rfl rfl rfl rfl ⟨rfl, rfl, Nat.le_of_ble_eq_true rfl⟩ rfl rfl (c_readIndex_w (dd := d) (hE := hE) (hd := by omega) (hW := hW)  (ln := ln) (e_ln := show G 9 = ln from (e_ln)) (le := le) (e_le := show A 4 (ln).toNat = le from (e_le)) (at0 := at0) (e_at0 := show G 10 = at0 from (e_at0)) (fk := fk) (e_fk := show G 16 = fk from (e_fk)) (op0 := op0) (e_op0 := show G 15 = op0 from (e_op0)) (nd := nd) (e_nd := show G 31 = nd from (e_nd)) (tk0 := tk0) (e_tk0 := show G 11 = tk0 from (e_tk0)) (ec := ec) (e_ec := show ecn A (G 31) = ec from e_ec) (sy := sy) (e_sy := show G 19 = sy from (e_sy)) (i_SV := (SV_ext (rfl) (rfl) i_SV))   (p_0 := by omega) (p_1 := by omega) (p_2 := by omega) (p_3 := by omega) (p_4 := by omega) (p_5 := by omega) (p_6 := by omega) (p_7 := by omega) (p_8 := by omega)) (fun o V' hq => ?_)
          obtain ⟨G15, A16, r17, at2_18, fk2_19, op2_20, nd2_21, tk2_22, ec2_23, rfl, rfl, hW24, hF25, hQ26, b27, e28, e29, e30, e31, e32, e33, p34, p35, p36, p37, p38, p39, q40⟩ := hq
          have hF41 := Fr_tr hF0 hF25 (Fr_sub (by decide)) (Fr_sub (by decide))
          have hP42 := Pf_tr hP0 hQ26 (by omega)
          have bat2_18 : (0 : Int) ≤ at2_18 ∧ at2_18 ≤ 3002 := e28 ▸ hW24.1 10
          have bfk2_19 : (0 : Int) ≤ fk2_19 ∧ fk2_19 ≤ 6 := e29 ▸ hW24.1 16
          have bop2_20 : (-2147483648 : Int) ≤ op2_20 ∧ op2_20 ≤ 2147483647 := e30 ▸ hW24.1 15
          have bnd2_21 : (0 : Int) ≤ nd2_21 ∧ nd2_21 ≤ 6999 := e31 ▸ hW24.1 31
          have ztk2_22 := tz_b tk2_22
          have btk2_22 : (0 : Int) ≤ tk2_22 ∧ tk2_22 ≤ 5 := e32 ▸ hW24.1 11
          refine .inr ⟨_, rfl, ?_⟩
          rcases q40 with ⟨a43, a44, a45⟩ | ⟨a46, a47, a48, a49, a50, a51⟩
          · have _q : True := trivial
            refine jx_ld (pc' := 34) (l' := jSto1 [(0, .ref 66), (1, .int (i32 (s))), (2, .int (i32 (place)))] 3 (.int (i32 (r17)))) (st' := []) rfl rfl ?_
            obtain ⟨L52, eL52⟩ : ∃ q, q = jSto1 [(0, .ref 66), (1, .int (i32 (s))), (2, .int (i32 (place)))] 3 (.int (i32 (r17))) := ⟨_, rfl⟩
            rw [← eL52]
            have gL52_0 : jGet L52 0 = some (.ref 66) := eL52 ▸ jg_ne (by decide) (rfl : jGet [(0, .ref 66), (1, .int (i32 (s))), (2, .int (i32 (place)))] 0 = some (.ref 66)) rfl
            have gL52_1 : jGet L52 1 = some (.int (i32 (s))) := eL52 ▸ jg_ne (by decide) (rfl : jGet [(0, .ref 66), (1, .int (i32 (s))), (2, .int (i32 (place)))] 1 = some (.int (i32 (s)))) rfl
            have gL52_2 : jGet L52 2 = some (.int (i32 (place))) := eL52 ▸ jg_ne (by decide) (rfl : jGet [(0, .ref 66), (1, .int (i32 (s))), (2, .int (i32 (place)))] 2 = some (.int (i32 (place)))) rfl
            have gL52_3 : jGet L52 3 = some (.int (i32 (r17))) := eL52 ▸ jg_eq
            refine jx_ld (pc' := 35) (l' := L52) (st' := [.ref 66]) rfl (jl_aloadn gL52_0) ?_
            refine jx_ar (pc' := 36) (st' := [.int (i32 (3)), .ref 66]) rfl rfl rfl rfl ?_
            refine jx_ld (pc' := 37) (l' := L52) (st' := [.int (i32 (s)), .int (i32 (3)), .ref 66]) rfl (jl_iloadn gL52_1) ?_
            refine jx_ld (pc' := 38) (l' := L52) (st' := [.int (i32 (r17)), .int (i32 (s)), .int (i32 (3)), .ref 66]) rfl (jl_iloadn gL52_3) ?_
            refine jx_ar (pc' := 39) (st' := [.int (i32 (0)), .int (i32 (r17)), .int (i32 (s)), .int (i32 (3)), .ref 66]) rfl rfl rfl rfl ?_
            refine jx_ar (pc' := 40) (st' := [.int (i32 (0)), .int (i32 (0)), .int (i32 (r17)), .int (i32 (s)), .int (i32 (3)), .ref 66]) rfl rfl rfl rfl ?_
            refine jx_vr (pc' := 43) (as := [.int (i32 (3)), .int (i32 (s)), .int (i32 (r17)), .int (i32 (0)), .int (i32 (0))]) (st := []) rfl rfl rfl rfl ⟨rfl, rfl, Nat.le_of_ble_eq_true rfl⟩ rfl rfl (c_node_e (dd := d) (hd := by omega) (hW := hW24) (kind := 3) (a := s) (b := r17) (c := 0) (e := 0) (nd := nd2_21) (e_nd := show G15 31 = nd2_21 from (e31)) (ec := ec2_23) (e_ec := show ecn A16 (G15 31) = ec2_23 from e33) (sy := sy) (e_sy := show G15 19 = sy from ((hF25.1 19 rfl).trans (e_sy)))  (h_kind := ⟨(by decide), (by decide)⟩) (h_a := ⟨(Int.le_trans (by decide : (-2147483648 : Int) ≤ -2147483648) h_s.1), (Int.le_trans h_s.2 (by decide : (2147483647 : Int) ≤ 2147483647))⟩) (h_b := ⟨(Int.le_trans (by decide : (-2147483648 : Int) ≤ -2147483648) b27.1), (Int.le_trans b27.2 (by decide : (2147483647 : Int) ≤ 2147483647))⟩) (h_c := ⟨(by decide), (by decide)⟩) (h_e := ⟨(by decide), (by decide)⟩)  (p_0 := by omega) (p_1 := by omega) (p_2 := by omega)) (fun o V' hq => ?_)
            obtain ⟨G53, A54, nd2_55, ec2_56, rfl, rfl, hW57, hF58, hQ59, e60, e61, p62, p63, p64, p65, -⟩ := hq
            have hF67 := Fr_tr hF41 hF58 (Fr_sub (by decide)) (Fr_sub (by decide))
            have hP68 := Pf_tr hP42 hQ59 (by omega)
            have bnd2_55 : (0 : Int) ≤ nd2_55 ∧ nd2_55 ≤ 6999 := e60 ▸ hW57.1 31
            refine .inr ⟨_, rfl, ?_⟩
            refine jx_rt (v := some (.int (i32 (nd2_21)))) rfl rfl rfl rfl rfl rfl ?_
            have z69 := tz_f (tk2_22)
            exact ⟨_, _, _, at2_18, fk2_19, op2_20, nd2_55, tk2_22, ec2_56, rfl, rfl, hW57, hF67, hP68, by omega, ((hF58.1 10 rfl).trans (e28)), ((hF58.1 16 rfl).trans (e29)), ((hF58.1 15 rfl).trans (e30)), (e60), ((hF58.1 11 rfl).trans (e32)), e61, by omega, by omega, by omega, by omega, by omega, by omega, by first | exact Or.inl (⟨by omega, by omega, by omega⟩)⟩
          · have _q : True := trivial
            refine jx_ld (pc' := 34) (l' := jSto1 [(0, .ref 66), (1, .int (i32 (s))), (2, .int (i32 (place)))] 3 (.int (i32 (r17)))) (st' := []) rfl rfl ?_
            obtain ⟨L70, eL70⟩ : ∃ q, q = jSto1 [(0, .ref 66), (1, .int (i32 (s))), (2, .int (i32 (place)))] 3 (.int (i32 (r17))) := ⟨_, rfl⟩
            rw [← eL70]
            have gL70_0 : jGet L70 0 = some (.ref 66) := eL70 ▸ jg_ne (by decide) (rfl : jGet [(0, .ref 66), (1, .int (i32 (s))), (2, .int (i32 (place)))] 0 = some (.ref 66)) rfl
            have gL70_1 : jGet L70 1 = some (.int (i32 (s))) := eL70 ▸ jg_ne (by decide) (rfl : jGet [(0, .ref 66), (1, .int (i32 (s))), (2, .int (i32 (place)))] 1 = some (.int (i32 (s)))) rfl
            have gL70_2 : jGet L70 2 = some (.int (i32 (place))) := eL70 ▸ jg_ne (by decide) (rfl : jGet [(0, .ref 66), (1, .int (i32 (s))), (2, .int (i32 (place)))] 2 = some (.int (i32 (place)))) rfl
            have gL70_3 : jGet L70 3 = some (.int (i32 (r17))) := eL70 ▸ jg_eq
            refine jx_ld (pc' := 35) (l' := L70) (st' := [.ref 66]) rfl (jl_aloadn gL70_0) ?_
            refine jx_ar (pc' := 36) (st' := [.int (i32 (3)), .ref 66]) rfl rfl rfl rfl ?_
            refine jx_ld (pc' := 37) (l' := L70) (st' := [.int (i32 (s)), .int (i32 (3)), .ref 66]) rfl (jl_iloadn gL70_1) ?_
            refine jx_ld (pc' := 38) (l' := L70) (st' := [.int (i32 (r17)), .int (i32 (s)), .int (i32 (3)), .ref 66]) rfl (jl_iloadn gL70_3) ?_
            refine jx_ar (pc' := 39) (st' := [.int (i32 (0)), .int (i32 (r17)), .int (i32 (s)), .int (i32 (3)), .ref 66]) rfl rfl rfl rfl ?_
            refine jx_ar (pc' := 40) (st' := [.int (i32 (0)), .int (i32 (0)), .int (i32 (r17)), .int (i32 (s)), .int (i32 (3)), .ref 66]) rfl rfl rfl rfl ?_
            refine jx_vr (pc' := 43) (as := [.int (i32 (3)), .int (i32 (s)), .int (i32 (r17)), .int (i32 (0)), .int (i32 (0))]) (st := []) rfl rfl rfl rfl ⟨rfl, rfl, Nat.le_of_ble_eq_true rfl⟩ rfl rfl (c_node_e (dd := d) (hd := by omega) (hW := hW24) (kind := 3) (a := s) (b := r17) (c := 0) (e := 0) (nd := nd2_21) (e_nd := show G15 31 = nd2_21 from (e31)) (ec := ec2_23) (e_ec := show ecn A16 (G15 31) = ec2_23 from e33) (sy := sy) (e_sy := show G15 19 = sy from ((hF25.1 19 rfl).trans (e_sy)))  (h_kind := ⟨(by decide), (by decide)⟩) (h_a := ⟨(Int.le_trans (by decide : (-2147483648 : Int) ≤ -2147483648) h_s.1), (Int.le_trans h_s.2 (by decide : (2147483647 : Int) ≤ 2147483647))⟩) (h_b := ⟨(Int.le_trans (by decide : (-2147483648 : Int) ≤ -2147483648) b27.1), (Int.le_trans b27.2 (by decide : (2147483647 : Int) ≤ 2147483647))⟩) (h_c := ⟨(by decide), (by decide)⟩) (h_e := ⟨(by decide), (by decide)⟩)  (p_0 := by omega) (p_1 := by omega) (p_2 := by omega)) (fun o V' hq => ?_)
            obtain ⟨G71, A72, nd2_73, ec2_74, rfl, rfl, hW75, hF76, hQ77, e78, e79, p80, p81, p82, p83, -⟩ := hq
            have hF85 := Fr_tr hF41 hF76 (Fr_sub (by decide)) (Fr_sub (by decide))
            have hP86 := Pf_tr hP42 hQ77 (by omega)
            have sf87 : wE A72 Vs sb (2 * k + 2) (r17) (nd) (nd2_21) := wE_ag (by omega) (Sg_fr hF76 (by decide)) (Ag_pf hQ77 (by omega)) a49
            have sf88 : NdM A72 (nd) (nd2_21) (sy) := NdM_pf hQ77 (by omega) (by omega) a51
            have bnd2_73 : (0 : Int) ≤ nd2_73 ∧ nd2_73 ≤ 6999 := e78 ▸ hW75.1 31
            refine .inr ⟨_, rfl, ?_⟩
            refine jx_rt (v := some (.int (i32 (nd2_21)))) rfl rfl rfl rfl rfl rfl ?_
            have z89 := tz_f (tk2_22)
            exact ⟨_, _, _, at2_18, fk2_19, op2_20, nd2_73, tk2_22, ec2_74, rfl, rfl, hW75, hF85, hP86, by omega, ((hF76.1 10 rfl).trans (e28)), ((hF76.1 16 rfl).trans (e29)), ((hF76.1 15 rfl).trans (e30)), (e78), ((hF76.1 11 rfl).trans (e32)), e79, by omega, by omega, by omega, by omega, by omega, by omega, by first | exact Or.inr ((⟨by omega, by omega, by omega, (wE_elem p82 (by omega) (by omega) p_10 (kq (P := kArr) (show A72 7 (s).toNat = A 7 (s).toNat from (congrFun ((hF76.2 7 rfl).trans (hF25.2 7 rfl)) _)) a13) (wE_mono (by omega) (by omega) (by omega) sf87)), by omega, (NdM_w (NdM_app (sy := sy) sf88 p83 (by omega) (by omega) (by omega)) (by omega) (by omega) (by omega))⟩))⟩
        · have _q := h14
          exact absurd h14 (by omega)
      · have _q : True := trivial
        refine jx_if_ne (pc' := 21) (tg := 29) rfl rfl rfl (by decide) (by decide) (fun h90 => ?_) (fun h90 => ?_)
        · have _q := h90
          exact absurd h90 (by omega)
        · have _q := h90
          refine jx_ld (pc' := 22) (l' := [(0, .ref 66), (1, .int (i32 (s))), (2, .int (i32 (place)))]) (st' := [.ref 66]) rfl (jl_aloadn rfl) ?_
          refine jx_ar (pc' := 23) (st' := [.int (i32 (4)), .ref 66]) rfl rfl rfl rfl ?_
          refine jx_ld (pc' := 24) (l' := [(0, .ref 66), (1, .int (i32 (s))), (2, .int (i32 (place)))]) (st' := [.int (i32 (place)), .int (i32 (4)), .ref 66]) rfl (jl_iloadn rfl) ?_
          refine jx_vr (pc' := 27) (as := [.int (i32 (4)), .int (i32 (place))]) (st := []) rfl rfl rfl rfl ⟨rfl, rfl, Nat.le_of_ble_eq_true rfl⟩ rfl rfl (c_fail (dd := d) (hd := by omega) (hW := hW) (kind := 4) (place := place) (fk := fk) (e_fk := show G 16 = fk from (e_fk))  (h_kind := ⟨(by decide), (by decide)⟩) (h_place := ⟨(Int.le_trans (by decide : (-2147483648 : Int) ≤ -2147483648) h_place.1), (Int.le_trans h_place.2 (by decide : (2147483647 : Int) ≤ 2147483647))⟩)  (p_0 := by omega) (p_1 := by omega)) (fun o V' hq => ?_)
          obtain ⟨G91, A92, fk2_93, rfl, rfl, hW94, hF95, e96, p97, -⟩ := hq
          have hF99 := Fr_tr hF0 hF95 (Fr_sub (by decide)) (Fr_sub (by decide))
          have hP100 := Pf_f hP0 hF95 (by decide)
          have ec101 : ecn A92 (G91 31) = ec := (ecn_f (hF95.2 15 rfl) (hF95.1 31 rfl)).trans e_ec
          have bfk2_93 : (0 : Int) ≤ fk2_93 ∧ fk2_93 ≤ 6 := e96 ▸ hW94.1 16
          refine .inl ⟨rfl, ?_⟩
          refine jx_ar (pc' := 28) (st' := [.int (i32 (0))]) rfl rfl rfl rfl ?_
          refine jx_rt (v := some (.int (i32 (0)))) rfl rfl rfl rfl rfl rfl ?_
          have z102 := tz_f (tk0)
          exact ⟨_, _, _, at0, fk2_93, op0, nd, tk0, ec, rfl, rfl, hW94, hF99, hP100, by omega, ((hF95.1 10 rfl).trans (e_at0)), (e96), ((hF95.1 15 rfl).trans (e_op0)), ((hF95.1 31 rfl).trans (e_nd)), ((hF95.1 11 rfl).trans (e_tk0)), ec101, by omega, by omega, by omega, by omega, by omega, by omega, by first | exact Or.inl (⟨by omega, by omega, by omega⟩)⟩
  · have _q : True := trivial
    refine jx_if_eq (pc' := 9) (tg := 44) rfl rfl rfl (by decide) (by decide) (fun h103 => ?_) (fun h103 => ?_)
    · have _q := h103
      refine jx_ld (pc' := 45) (l' := [(0, .ref 66), (1, .int (i32 (s))), (2, .int (i32 (place)))]) (st' := [.ref 66]) rfl (jl_aloadn rfl) ?_
      refine jr_get (pc' := 48) (i := 21) (v := .ref 74) rfl rfl (by decide) rfl rfl ?_
      refine jx_ld (pc' := 49) (l' := [(0, .ref 66), (1, .int (i32 (s))), (2, .int (i32 (place)))]) (st' := [.int (i32 (s)), .ref 74]) rfl (jl_iloadn rfl) ?_
      have b104 : (0 : Int) ≤ A 7 (s).toNat ∧ A 7 (s).toNat ≤ 14 := hW.2 7 _
      refine jr_ldv (pc' := 50) (i := 7) (m := 260) (z := s) (y := A 7 (s).toNat) rfl (by decide) rfl (by decide) (by omega) (by omega) rfl (show A 7 (s).toNat = A 7 (s).toNat from rfl) ?_
      refine jx_st (pc' := 53) (as := [.int (i32 (A 7 (s).toNat))]) (st := []) rfl rfl ⟨rfl, Nat.le_of_ble_eq_true rfl⟩ rfl rfl rfl (c_isValue (dd := d) (hd := by omega) (k := A 7 (s).toNat)   (h_k := ⟨(Int.le_trans (by decide : (-2147483648 : Int) ≤ 0) b104.1), (Int.le_trans b104.2 (by decide : (14 : Int) ≤ 2147483647))⟩)  ) (fun o V' hq => ?_)
      obtain ⟨r105, rfl, rfl, b106, q107⟩ := hq
      refine .inr ⟨_, rfl, ?_⟩
      rcases q107 with ⟨rfl, a108⟩ | rfl
      · have _q : True := trivial
        refine jx_if_ne (pc' := 56) (tg := 64) rfl rfl rfl (by decide) (by decide) (fun h109 => ?_) (fun h109 => ?_)
        · have _q := h109
          refine jx_ld (pc' := 65) (l' := [(0, .ref 66), (1, .int (i32 (s))), (2, .int (i32 (place)))]) (st' := [.ref 66]) rfl (jl_aloadn rfl) ?_
          refine jx_ar (pc' := 66) (st' := [.int (i32 (2)), .ref 66]) rfl rfl rfl rfl ?_
          refine jx_ld (pc' := 67) (l' := [(0, .ref 66), (1, .int (i32 (s))), (2, .int (i32 (place)))]) (st' := [.int (i32 (s)), .int (i32 (2)), .ref 66]) rfl (jl_iloadn rfl) ?_
          refine jx_ar (pc' := 68) (st' := [.int (i32 (0)), .int (i32 (s)), .int (i32 (2)), .ref 66]) rfl rfl rfl rfl ?_
          refine jx_ar (pc' := 69) (st' := [.int (i32 (0)), .int (i32 (0)), .int (i32 (s)), .int (i32 (2)), .ref 66]) rfl rfl rfl rfl ?_
          refine jx_ar (pc' := 70) (st' := [.int (i32 (0)), .int (i32 (0)), .int (i32 (0)), .int (i32 (s)), .int (i32 (2)), .ref 66]) rfl rfl rfl rfl ?_
          refine jx_vr (pc' := 73) (as := [.int (i32 (2)), .int (i32 (s)), .int (i32 (0)), .int (i32 (0)), .int (i32 (0))]) (st := []) rfl rfl rfl rfl ⟨rfl, rfl, Nat.le_of_ble_eq_true rfl⟩ rfl rfl (c_node_o (dd := d) (hd := by omega) (hW := hW) (kind := 2) (a := s) (b := 0) (c := 0) (e := 0) (nd := nd) (e_nd := show G 31 = nd from (e_nd)) (ec := ec) (e_ec := show ecn A (G 31) = ec from e_ec) (sy := sy) (e_sy := show G 19 = sy from (e_sy))  (h_kind := ⟨(by decide), (by decide)⟩) (h_a := ⟨(Int.le_trans (by decide : (-2147483648 : Int) ≤ -2147483648) h_s.1), (Int.le_trans h_s.2 (by decide : (2147483647 : Int) ≤ 2147483647))⟩) (h_b := ⟨(by decide), (by decide)⟩) (h_c := ⟨(by decide), (by decide)⟩) (h_e := ⟨(by decide), (by decide)⟩)  (p_0 := by omega) (p_1 := by omega) (p_2 := by omega)) (fun o V' hq => ?_)
          obtain ⟨G110, A111, nd2_112, ec2_113, rfl, rfl, hW114, hF115, hQ116, e117, e118, p119, p120, p121, p122, -⟩ := hq
          have hF124 := Fr_tr hF0 hF115 (Fr_sub (by decide)) (Fr_sub (by decide))
          have hP125 := Pf_tr hP0 hQ116 (by omega)
          have bnd2_112 : (0 : Int) ≤ nd2_112 ∧ nd2_112 ≤ 6999 := e117 ▸ hW114.1 31
          refine .inr ⟨_, rfl, ?_⟩
          refine jx_rt (v := some (.int (i32 (nd)))) rfl rfl rfl rfl rfl rfl ?_
          have z126 := tz_f (tk0)
          exact ⟨_, _, _, at0, fk, op0, nd2_112, tk0, ec2_113, rfl, rfl, hW114, hF124, hP125, by omega, ((hF115.1 10 rfl).trans (e_at0)), ((hF115.1 16 rfl).trans (e_fk)), ((hF115.1 15 rfl).trans (e_op0)), (e117), ((hF115.1 11 rfl).trans (e_tk0)), e118, by omega, by omega, by omega, by omega, by omega, by omega, by first | exact Or.inr ((⟨by omega, by omega, by omega, (wE_var p121 (by omega) (by omega) p_10 (kq (P := kVal) (show A111 7 (s).toNat = A 7 (s).toNat from (congrFun (hF115.2 7 rfl) _)) a108)), by omega, (NdM_w p122 (by omega) (by omega) (by omega))⟩))⟩
        · have _q := h109
          exact absurd h109 (by omega)
      · have _q : True := trivial
        refine jx_if_ne (pc' := 56) (tg := 64) rfl rfl rfl (by decide) (by decide) (fun h127 => ?_) (fun h127 => ?_)
        · have _q := h127
          exact absurd h127 (by omega)
        · have _q := h127
          refine jx_ld (pc' := 57) (l' := [(0, .ref 66), (1, .int (i32 (s))), (2, .int (i32 (place)))]) (st' := [.ref 66]) rfl (jl_aloadn rfl) ?_
          refine jx_ar (pc' := 58) (st' := [.int (i32 (4)), .ref 66]) rfl rfl rfl rfl ?_
          refine jx_ld (pc' := 59) (l' := [(0, .ref 66), (1, .int (i32 (s))), (2, .int (i32 (place)))]) (st' := [.int (i32 (place)), .int (i32 (4)), .ref 66]) rfl (jl_iloadn rfl) ?_
          refine jx_vr (pc' := 62) (as := [.int (i32 (4)), .int (i32 (place))]) (st := []) rfl rfl rfl rfl ⟨rfl, rfl, Nat.le_of_ble_eq_true rfl⟩ rfl rfl (c_fail (dd := d) (hd := by omega) (hW := hW) (kind := 4) (place := place) (fk := fk) (e_fk := show G 16 = fk from (e_fk))  (h_kind := ⟨(by decide), (by decide)⟩) (h_place := ⟨(Int.le_trans (by decide : (-2147483648 : Int) ≤ -2147483648) h_place.1), (Int.le_trans h_place.2 (by decide : (2147483647 : Int) ≤ 2147483647))⟩)  (p_0 := by omega) (p_1 := by omega)) (fun o V' hq => ?_)
          obtain ⟨G128, A129, fk2_130, rfl, rfl, hW131, hF132, e133, p134, -⟩ := hq
          have hF136 := Fr_tr hF0 hF132 (Fr_sub (by decide)) (Fr_sub (by decide))
          have hP137 := Pf_f hP0 hF132 (by decide)
          have ec138 : ecn A129 (G128 31) = ec := (ecn_f (hF132.2 15 rfl) (hF132.1 31 rfl)).trans e_ec
          have bfk2_130 : (0 : Int) ≤ fk2_130 ∧ fk2_130 ≤ 6 := e133 ▸ hW131.1 16
          refine .inl ⟨rfl, ?_⟩
          refine jx_ar (pc' := 63) (st' := [.int (i32 (0))]) rfl rfl rfl rfl ?_
          refine jx_rt (v := some (.int (i32 (0)))) rfl rfl rfl rfl rfl rfl ?_
          have z139 := tz_f (tk0)
          exact ⟨_, _, _, at0, fk2_130, op0, nd, tk0, ec, rfl, rfl, hW131, hF136, hP137, by omega, ((hF132.1 10 rfl).trans (e_at0)), (e133), ((hF132.1 15 rfl).trans (e_op0)), ((hF132.1 31 rfl).trans (e_nd)), ((hF132.1 11 rfl).trans (e_tk0)), ec138, by omega, by omega, by omega, by omega, by omega, by omega, by first | exact Or.inl (⟨by omega, by omega, by omega⟩)⟩
    · have _q := h103
      exact absurd h103 (by omega)
set_option maxRecDepth 20000 in
set_option maxHeartbeats 4000000 in
theorem c_readOperand_w {X : jX} {k : Nat} (hE : REw X k) {dd : Nat} {Vs : Nat → Prop} {sb : Int} {c0 c1 : jC} {G : Nat → Int} {A : Nat → Nat → Int} {T : jH} {ln le at0 fk op0 nd tk0 ec sy : Int} (hd : 6 * k + 14 ≤ dd) (hW : Wk G A) (e_ln : G 9 = ln) (e_le : A 4 (ln).toNat = le) (e_at0 : G 10 = at0) (e_fk : G 16 = fk) (e_op0 : G 15 = op0) (e_nd : G 31 = nd) (e_tk0 : G 11 = tk0) (e_ec : ecn A (G 31) = ec) (e_sy : G 19 = sy) (i_SV : SV Vs sb G A) (p_0 : 0 ≤ op0) (p_1 : op0 ≤ 9) (p_2 : op0 ≤ 8 ∨ 1 ≤ fk) (p_3 : 9 - op0 ≤ ((k + 1 : Nat) : Int) ∨ 1 ≤ fk) (p_4 : nd ≤ 2 * at0 - tz tk0 + 50) (p_5 : at0 ≤ le) : wk X dd 288 [.ref 66] (rV c0 c1 G A T) (fun o V' => ∃ (G' : Nat → Int) (A' : Nat → Nat → Int) (r : Int) (at2 : Int) (fk2 : Int) (op2 : Int) (nd2 : Int) (tk2 : Int) (ec2 : Int), V' = rV c0 c1 G' A' T ∧ o = .inl (some (.int (i32 r))) ∧ Wk G' A' ∧ Fr [10, 11, 12, 13, 14, 15, 16, 17, 18, 31] [15, 16, 17, 18, 19, 20, 21, 22, 24, 28] G A G' A' ∧ Pf nd A A' ∧ ((-2147483648 : Int) ≤ r ∧ r ≤ 2147483647) ∧ G' 10 = at2 ∧ G' 16 = fk2 ∧ G' 15 = op2 ∧ G' 31 = nd2 ∧ G' 11 = tk2 ∧ ecn A' (G' 31) = ec2 ∧ (at0 ≤ at2) ∧ (at2 ≤ le) ∧ (nd ≤ nd2) ∧ (op2 = op0) ∧ (0 ≤ r) ∧ (r ≤ nd2) ∧ (((1 ≤ fk) ∧ (1 ≤ fk2) ∧ (nd2 = nd) ∧ (at2 = at0) ∧ (tk2 = tk0) ∧ (tz tk2 = tz tk0)) ∨ ((fk = 0) ∧ (1 ≤ fk2) ∧ (nd2 - nd ≤ (2 * at2 - tz tk2) - (2 * at0 - tz tk0) + 1)) ∨ ((fk = 0) ∧ (fk2 = 0) ∧ (nd2 - nd ≤ (2 * at2 - tz tk2) - (2 * at0 - tz tk0)) ∧ (wE A' Vs sb (2 * k + 3) (r) (nd) (nd2)) ∧ (nd2 - nd + 5 * (ec2 - ec) ≤ (2 * at2 - tz tk2) - (2 * at0 - tz tk0) - tz tk2) ∧ (NdM A' (nd) (nd2) (sy)) ∧ (tz tk0 = 1)))) := by
  obtain ⟨d, rfl⟩ : ∃ d, dd = d + 1 := ⟨dd - 1, by omega⟩
  refine wk_of (e := jm288) rfl (Nat.le_of_ble_eq_true rfl) ?_
  show wj X d jm288 (0, [(0, .ref 66)], [], rV c0 c1 G A T) _
  have hF0 : Fr [10, 11, 12, 13, 14, 15, 16, 17, 18, 31] [15, 16, 17, 18, 19, 20, 21, 22, 24, 28] G A G A := Fr_rf
  have hP0 : Pf nd A A := Pf_rf
  have b_ln : (0 : Int) ≤ ln ∧ ln ≤ 3000 := e_ln ▸ hW.1 9
  have b_le : (0 : Int) ≤ le ∧ le ≤ 3000 := e_le ▸ hW.2 4 _
  have b_at0 : (0 : Int) ≤ at0 ∧ at0 ≤ 3002 := e_at0 ▸ hW.1 10
  have b_fk : (0 : Int) ≤ fk ∧ fk ≤ 6 := e_fk ▸ hW.1 16
  have b_op0 : (-2147483648 : Int) ≤ op0 ∧ op0 ≤ 2147483647 := e_op0 ▸ hW.1 15
  have b_nd : (0 : Int) ≤ nd ∧ nd ≤ 6999 := e_nd ▸ hW.1 31
  have z_tk0 := tz_f tk0
  have b_tk0 : (0 : Int) ≤ tk0 ∧ tk0 ≤ 5 := e_tk0 ▸ hW.1 11
  have b_sy : (0 : Int) ≤ sy ∧ sy ≤ 202 := e_sy ▸ hW.1 19
  refine jx_ld (pc' := 1) (l' := [(0, .ref 66)]) (st' := [.ref 66]) rfl (jl_aloadn rfl) ?_
  refine jx_vr (pc' := 4) (as := []) (st := []) rfl rfl rfl rfl ⟨rfl, rfl, Nat.le_of_ble_eq_true rfl⟩ rfl rfl (c_bad (dd := d) (hd := by omega) (hW := hW)  (fk := fk) (e_fk := show G 16 = fk from (e_fk))    ) (fun o V' hq => ?_)
  obtain ⟨r1, rfl, rfl, b2, q3⟩ := hq
  refine .inr ⟨_, rfl, ?_⟩
  rcases q3 with ⟨rfl, a4⟩ | ⟨rfl, a5⟩
  · have _q : True := trivial
    refine jx_if_eq (pc' := 7) (tg := 9) rfl rfl rfl (by decide) (by decide) (fun h6 => ?_) (fun h6 => ?_)
    · have _q := h6
      exact absurd h6 (by omega)
    · have _q := h6
      refine jx_ar (pc' := 8) (st' := [.int (i32 (0))]) rfl rfl rfl rfl ?_
      refine jx_rt (v := some (.int (i32 (0)))) rfl rfl rfl rfl rfl rfl ?_
      have z7 := tz_f (tk0)
      exact ⟨_, _, _, at0, fk, op0, nd, tk0, ec, rfl, rfl, hW, hF0, hP0, by omega, (e_at0), (e_fk), (e_op0), (e_nd), (e_tk0), e_ec, by omega, by omega, by omega, by omega, by omega, by omega, by first | exact Or.inl (⟨by omega, by omega, by omega, by omega, by omega, by omega⟩)⟩
  · have _q : True := trivial
    refine jx_if_eq (pc' := 7) (tg := 9) rfl rfl rfl (by decide) (by decide) (fun h8 => ?_) (fun h8 => ?_)
    · have _q := h8
      refine jx_ld (pc' := 10) (l' := [(0, .ref 66)]) (st' := [.ref 66]) rfl (jl_aloadn rfl) ?_
      have z9 := tz_f (tk0)
      refine jr_get (pc' := 13) (i := 11) (v := .int (i32 (tk0))) rfl rfl (by decide) (rFv_eq (by decide) (show G 11 = tk0 from (e_tk0))) rfl ?_
      refine jx_ar (pc' := 14) (st' := [.int (i32 (3)), .int (i32 (tk0))]) rfl rfl rfl rfl ?_
      refine jx_icmp_eq (pc' := 17) (tg := 35) rfl rfl rfl (Int.le_trans (by decide : (-2147483648 : Int) ≤ 0) b_tk0.1) (Int.le_trans b_tk0.2 (by decide : (5 : Int) ≤ 2147483647)) (by decide) (by decide) (fun h10 => ?_) (fun h10 => ?_)
      · have _q := h10
        refine jx_ld (pc' := 36) (l' := [(0, .ref 66)]) (st' := [.ref 66]) rfl (jl_aloadn rfl) ?_
        have z11 := tz_f (tk0)
        refine jr_get (pc' := 39) (i := 11) (v := .int (i32 (tk0))) rfl rfl (by decide) (rFv_eq (by decide) (show G 11 = tk0 from (e_tk0))) rfl ?_
        refine jx_ar (pc' := 40) (st' := [.int (i32 (3)), .int (i32 (tk0))]) rfl rfl rfl rfl ?_
        refine jx_icmp_ne (pc' := 43) (tg := 50) rfl rfl rfl (Int.le_trans (by decide : (-2147483648 : Int) ≤ 0) b_tk0.1) (Int.le_trans b_tk0.2 (by decide : (5 : Int) ≤ 2147483647)) (by decide) (by decide) (fun h12 => ?_) (fun h12 => ?_)
        · have _q := h12
          refine jx_ld (pc' := 51) (l' := [(0, .ref 66)]) (st' := [.ref 66]) rfl (jl_aloadn rfl) ?_
          refine jx_ar (pc' := 53) (st' := [.int (i32 (14)), .ref 66]) rfl rfl rfl rfl ?_
          have b13 : (-2147483648 : Int) ≤ G 13 ∧ G 13 ≤ 2147483647 := hW.1 13
          refine jx_vr (pc' := 56) (as := [.int (i32 (14))]) (st := []) rfl rfl rfl rfl ⟨rfl, rfl, Nat.le_of_ble_eq_true rfl⟩ rfl rfl (c_isKey (dd := d) (hd := by omega) (hW := hW) (k := 14) (tk := tk0) (e_tk := show G 11 = tk0 from (e_tk0)) (tn := G 13) (e_tn := show G 13 = G 13 from rfl)  (h_k := ⟨(by decide), (by decide)⟩)  ) (fun o V' hq => ?_)
          obtain ⟨r14, rfl, rfl, b15, q16⟩ := hq
          refine .inr ⟨_, rfl, ?_⟩
          rcases q16 with ⟨rfl, a17, a18, a19⟩ | rfl
          · have _q : True := trivial
            refine jx_if_eq (pc' := 59) (tg := 63) rfl rfl rfl (by decide) (by decide) (fun h20 => ?_) (fun h20 => ?_)
            · have _q := h20
              exact absurd h20 (by omega)
            · have _q := h20
              refine jx_ar (pc' := 60) (st' := [.int (i32 (1))]) rfl rfl rfl rfl ?_
              refine jx_go (tg := 64) rfl rfl ?_
              refine jx_ld (pc' := 65) (l' := jSto1 [(0, .ref 66)] 1 (.int (i32 (1)))) (st' := []) rfl rfl ?_
              obtain ⟨L21, eL21⟩ : ∃ q, q = jSto1 [(0, .ref 66)] 1 (.int (i32 (1))) := ⟨_, rfl⟩
              rw [← eL21]
              have gL21_0 : jGet L21 0 = some (.ref 66) := eL21 ▸ jg_ne (by decide) (rfl : jGet [(0, .ref 66)] 0 = some (.ref 66)) rfl
              have gL21_1 : jGet L21 1 = some (.int (i32 (1))) := eL21 ▸ jg_eq
              refine jx_ld (pc' := 66) (l' := L21) (st' := [.ref 66]) rfl (jl_aloadn gL21_0) ?_
              refine jx_vr (pc' := 69) (as := []) (st := []) rfl rfl rfl rfl ⟨rfl, rfl, Nat.le_of_ble_eq_true rfl⟩ rfl rfl (c_next (dd := d) (hd := by omega) (hW := hW)  (ln := ln) (e_ln := show G 9 = ln from (e_ln)) (le := le) (e_le := show A 4 (ln).toNat = le from (e_le)) (at0 := at0) (e_at0 := show G 10 = at0 from (e_at0))    (p_0 := by omega)) (fun o V' hq => ?_)
              obtain ⟨G22, A23, at2_24, tk2_25, rfl, rfl, hW26, hF27, e28, e29, p30, p31, p32, -⟩ := hq
              have hF34 := Fr_tr hF0 hF27 (Fr_sub (by decide)) (Fr_sub (by decide))
              have hP35 := Pf_f hP0 hF27 (by decide)
              have ec36 : ecn A23 (G22 31) = ec := (ecn_f (hF27.2 15 rfl) (hF27.1 31 rfl)).trans e_ec
              have bat2_24 : (0 : Int) ≤ at2_24 ∧ at2_24 ≤ 3002 := e28 ▸ hW26.1 10
              have ztk2_25 := tz_b tk2_25
              have btk2_25 : (0 : Int) ≤ tk2_25 ∧ tk2_25 ≤ 5 := e29 ▸ hW26.1 11
              refine .inl ⟨rfl, ?_⟩
              have pz37 : at0 + tz tk2_25 ≤ at2_24 := by omega
              refine jx_ld (pc' := 70) (l' := L21) (st' := [.ref 66]) rfl (jl_aloadn gL21_0) ?_
              refine jx_ar (pc' := 71) (st' := [.int (i32 (1)), .ref 66]) rfl rfl rfl rfl ?_
              refine jx_ld (pc' := 72) (l' := L21) (st' := [.int (i32 (1)), .int (i32 (1)), .ref 66]) rfl (jl_iloadn gL21_1) ?_
              refine jx_ar (pc' := 73) (st' := [.int (i32 (0)), .int (i32 (1)), .int (i32 (1)), .ref 66]) rfl rfl rfl rfl ?_
              refine jx_ar (pc' := 74) (st' := [.int (i32 (0)), .int (i32 (0)), .int (i32 (1)), .int (i32 (1)), .ref 66]) rfl rfl rfl rfl ?_
              refine jx_ar (pc' := 75) (st' := [.int (i32 (0)), .int (i32 (0)), .int (i32 (0)), .int (i32 (1)), .int (i32 (1)), .ref 66]) rfl rfl rfl rfl ?_
              refine jx_vr (pc' := 78) (as := [.int (i32 (1)), .int (i32 (1)), .int (i32 (0)), .int (i32 (0)), .int (i32 (0))]) (st := []) rfl rfl rfl rfl ⟨rfl, rfl, Nat.le_of_ble_eq_true rfl⟩ rfl rfl (c_node_o (dd := d) (hd := by omega) (hW := hW26) (kind := 1) (a := 1) (b := 0) (c := 0) (e := 0) (nd := nd) (e_nd := show G22 31 = nd from ((hF27.1 31 rfl).trans (e_nd))) (ec := ec) (e_ec := show ecn A23 (G22 31) = ec from ec36) (sy := sy) (e_sy := show G22 19 = sy from ((hF27.1 19 rfl).trans (e_sy)))  (h_kind := ⟨(by decide), (by decide)⟩) (h_a := ⟨(by decide), (by decide)⟩) (h_b := ⟨(by decide), (by decide)⟩) (h_c := ⟨(by decide), (by decide)⟩) (h_e := ⟨(by decide), (by decide)⟩)  (p_0 := by omega) (p_1 := by omega) (p_2 := by omega)) (fun o V' hq => ?_)
              obtain ⟨G38, A39, nd2_40, ec2_41, rfl, rfl, hW42, hF43, hQ44, e45, e46, p47, p48, p49, p50, -⟩ := hq
              have hF52 := Fr_tr hF34 hF43 (Fr_sub (by decide)) (Fr_sub (by decide))
              have hP53 := Pf_tr hP35 hQ44 (by omega)
              have bnd2_40 : (0 : Int) ≤ nd2_40 ∧ nd2_40 ≤ 6999 := e45 ▸ hW42.1 31
              refine .inr ⟨_, rfl, ?_⟩
              refine jx_rt (v := some (.int (i32 (nd)))) rfl rfl rfl rfl rfl rfl ?_
              have z54 := tz_f (tk2_25)
              exact ⟨_, _, _, at2_24, fk, op0, nd2_40, tk2_25, ec2_41, rfl, rfl, hW42, hF52, hP53, by omega, ((hF43.1 10 rfl).trans (e28)), ((hF43.1 16 rfl).trans ((hF27.1 16 rfl).trans (e_fk))), ((hF43.1 15 rfl).trans ((hF27.1 15 rfl).trans (e_op0))), (e45), ((hF43.1 11 rfl).trans (e29)), e46, by omega, by omega, by omega, by omega, by omega, by omega, by first | exact Or.inr (Or.inr ((⟨by omega, by omega, by omega, (wE_num p49 (by omega) (by omega)), by omega, (NdM_w p50 (by omega) (by omega) (by omega)), by omega⟩)))⟩
          · have _q : True := trivial
            refine jx_if_eq (pc' := 59) (tg := 63) rfl rfl rfl (by decide) (by decide) (fun h55 => ?_) (fun h55 => ?_)
            · have _q := h55
              refine jx_ar (pc' := 64) (st' := [.int (i32 (0))]) rfl rfl rfl rfl ?_
              refine jx_ld (pc' := 65) (l' := jSto1 [(0, .ref 66)] 1 (.int (i32 (0)))) (st' := []) rfl rfl ?_
              obtain ⟨L56, eL56⟩ : ∃ q, q = jSto1 [(0, .ref 66)] 1 (.int (i32 (0))) := ⟨_, rfl⟩
              rw [← eL56]
              have gL56_0 : jGet L56 0 = some (.ref 66) := eL56 ▸ jg_ne (by decide) (rfl : jGet [(0, .ref 66)] 0 = some (.ref 66)) rfl
              have gL56_1 : jGet L56 1 = some (.int (i32 (0))) := eL56 ▸ jg_eq
              refine jx_ld (pc' := 66) (l' := L56) (st' := [.ref 66]) rfl (jl_aloadn gL56_0) ?_
              refine jx_vr (pc' := 69) (as := []) (st := []) rfl rfl rfl rfl ⟨rfl, rfl, Nat.le_of_ble_eq_true rfl⟩ rfl rfl (c_next (dd := d) (hd := by omega) (hW := hW)  (ln := ln) (e_ln := show G 9 = ln from (e_ln)) (le := le) (e_le := show A 4 (ln).toNat = le from (e_le)) (at0 := at0) (e_at0 := show G 10 = at0 from (e_at0))    (p_0 := by omega)) (fun o V' hq => ?_)
              obtain ⟨G57, A58, at2_59, tk2_60, rfl, rfl, hW61, hF62, e63, e64, p65, p66, p67, -⟩ := hq
              have hF69 := Fr_tr hF0 hF62 (Fr_sub (by decide)) (Fr_sub (by decide))
              have hP70 := Pf_f hP0 hF62 (by decide)
              have ec71 : ecn A58 (G57 31) = ec := (ecn_f (hF62.2 15 rfl) (hF62.1 31 rfl)).trans e_ec
              have bat2_59 : (0 : Int) ≤ at2_59 ∧ at2_59 ≤ 3002 := e63 ▸ hW61.1 10
              have ztk2_60 := tz_b tk2_60
              have btk2_60 : (0 : Int) ≤ tk2_60 ∧ tk2_60 ≤ 5 := e64 ▸ hW61.1 11
              refine .inl ⟨rfl, ?_⟩
              have pz72 : at0 + tz tk2_60 ≤ at2_59 := by omega
              refine jx_ld (pc' := 70) (l' := L56) (st' := [.ref 66]) rfl (jl_aloadn gL56_0) ?_
              refine jx_ar (pc' := 71) (st' := [.int (i32 (1)), .ref 66]) rfl rfl rfl rfl ?_
              refine jx_ld (pc' := 72) (l' := L56) (st' := [.int (i32 (0)), .int (i32 (1)), .ref 66]) rfl (jl_iloadn gL56_1) ?_
              refine jx_ar (pc' := 73) (st' := [.int (i32 (0)), .int (i32 (0)), .int (i32 (1)), .ref 66]) rfl rfl rfl rfl ?_
              refine jx_ar (pc' := 74) (st' := [.int (i32 (0)), .int (i32 (0)), .int (i32 (0)), .int (i32 (1)), .ref 66]) rfl rfl rfl rfl ?_
              refine jx_ar (pc' := 75) (st' := [.int (i32 (0)), .int (i32 (0)), .int (i32 (0)), .int (i32 (0)), .int (i32 (1)), .ref 66]) rfl rfl rfl rfl ?_
              refine jx_vr (pc' := 78) (as := [.int (i32 (1)), .int (i32 (0)), .int (i32 (0)), .int (i32 (0)), .int (i32 (0))]) (st := []) rfl rfl rfl rfl ⟨rfl, rfl, Nat.le_of_ble_eq_true rfl⟩ rfl rfl (c_node_o (dd := d) (hd := by omega) (hW := hW61) (kind := 1) (a := 0) (b := 0) (c := 0) (e := 0) (nd := nd) (e_nd := show G57 31 = nd from ((hF62.1 31 rfl).trans (e_nd))) (ec := ec) (e_ec := show ecn A58 (G57 31) = ec from ec71) (sy := sy) (e_sy := show G57 19 = sy from ((hF62.1 19 rfl).trans (e_sy)))  (h_kind := ⟨(by decide), (by decide)⟩) (h_a := ⟨(by decide), (by decide)⟩) (h_b := ⟨(by decide), (by decide)⟩) (h_c := ⟨(by decide), (by decide)⟩) (h_e := ⟨(by decide), (by decide)⟩)  (p_0 := by omega) (p_1 := by omega) (p_2 := by omega)) (fun o V' hq => ?_)
              obtain ⟨G73, A74, nd2_75, ec2_76, rfl, rfl, hW77, hF78, hQ79, e80, e81, p82, p83, p84, p85, -⟩ := hq
              have hF87 := Fr_tr hF69 hF78 (Fr_sub (by decide)) (Fr_sub (by decide))
              have hP88 := Pf_tr hP70 hQ79 (by omega)
              have bnd2_75 : (0 : Int) ≤ nd2_75 ∧ nd2_75 ≤ 6999 := e80 ▸ hW77.1 31
              refine .inr ⟨_, rfl, ?_⟩
              refine jx_rt (v := some (.int (i32 (nd)))) rfl rfl rfl rfl rfl rfl ?_
              have z89 := tz_f (tk2_60)
              exact ⟨_, _, _, at2_59, fk, op0, nd2_75, tk2_60, ec2_76, rfl, rfl, hW77, hF87, hP88, by omega, ((hF78.1 10 rfl).trans (e63)), ((hF78.1 16 rfl).trans ((hF62.1 16 rfl).trans (e_fk))), ((hF78.1 15 rfl).trans ((hF62.1 15 rfl).trans (e_op0))), (e80), ((hF78.1 11 rfl).trans (e64)), e81, by omega, by omega, by omega, by omega, by omega, by omega, by first | exact Or.inr (Or.inr ((⟨by omega, by omega, by omega, (wE_num p84 (by omega) (by omega)), by omega, (NdM_w p85 (by omega) (by omega) (by omega)), by omega⟩)))⟩
            · have _q := h55
              exact absurd h55 (by omega)
        · have _q := h12
          refine jx_ld (pc' := 44) (l' := [(0, .ref 66)]) (st' := [.ref 66]) rfl (jl_aloadn rfl) ?_
          have b90 : (-2147483648 : Int) ≤ G 13 ∧ G 13 ≤ 2147483647 := hW.1 13
          refine jr_get (pc' := 47) (i := 13) (v := .int (i32 (G 13))) rfl rfl (by decide) rfl rfl ?_
          refine jx_go (tg := 64) rfl rfl ?_
          refine jx_ld (pc' := 65) (l' := jSto1 [(0, .ref 66)] 1 (.int (i32 (G 13)))) (st' := []) rfl rfl ?_
          obtain ⟨L91, eL91⟩ : ∃ q, q = jSto1 [(0, .ref 66)] 1 (.int (i32 (G 13))) := ⟨_, rfl⟩
          rw [← eL91]
          have gL91_0 : jGet L91 0 = some (.ref 66) := eL91 ▸ jg_ne (by decide) (rfl : jGet [(0, .ref 66)] 0 = some (.ref 66)) rfl
          have gL91_1 : jGet L91 1 = some (.int (i32 (G 13))) := eL91 ▸ jg_eq
          refine jx_ld (pc' := 66) (l' := L91) (st' := [.ref 66]) rfl (jl_aloadn gL91_0) ?_
          refine jx_vr (pc' := 69) (as := []) (st := []) rfl rfl rfl rfl ⟨rfl, rfl, Nat.le_of_ble_eq_true rfl⟩ rfl rfl (c_next (dd := d) (hd := by omega) (hW := hW)  (ln := ln) (e_ln := show G 9 = ln from (e_ln)) (le := le) (e_le := show A 4 (ln).toNat = le from (e_le)) (at0 := at0) (e_at0 := show G 10 = at0 from (e_at0))    (p_0 := by omega)) (fun o V' hq => ?_)
          obtain ⟨G92, A93, at2_94, tk2_95, rfl, rfl, hW96, hF97, e98, e99, p100, p101, p102, -⟩ := hq
          have hF104 := Fr_tr hF0 hF97 (Fr_sub (by decide)) (Fr_sub (by decide))
          have hP105 := Pf_f hP0 hF97 (by decide)
          have ec106 : ecn A93 (G92 31) = ec := (ecn_f (hF97.2 15 rfl) (hF97.1 31 rfl)).trans e_ec
          have bat2_94 : (0 : Int) ≤ at2_94 ∧ at2_94 ≤ 3002 := e98 ▸ hW96.1 10
          have ztk2_95 := tz_b tk2_95
          have btk2_95 : (0 : Int) ≤ tk2_95 ∧ tk2_95 ≤ 5 := e99 ▸ hW96.1 11
          refine .inl ⟨rfl, ?_⟩
          have pz107 : at0 + tz tk2_95 ≤ at2_94 := by omega
          refine jx_ld (pc' := 70) (l' := L91) (st' := [.ref 66]) rfl (jl_aloadn gL91_0) ?_
          refine jx_ar (pc' := 71) (st' := [.int (i32 (1)), .ref 66]) rfl rfl rfl rfl ?_
          refine jx_ld (pc' := 72) (l' := L91) (st' := [.int (i32 (G 13)), .int (i32 (1)), .ref 66]) rfl (jl_iloadn gL91_1) ?_
          refine jx_ar (pc' := 73) (st' := [.int (i32 (0)), .int (i32 (G 13)), .int (i32 (1)), .ref 66]) rfl rfl rfl rfl ?_
          refine jx_ar (pc' := 74) (st' := [.int (i32 (0)), .int (i32 (0)), .int (i32 (G 13)), .int (i32 (1)), .ref 66]) rfl rfl rfl rfl ?_
          refine jx_ar (pc' := 75) (st' := [.int (i32 (0)), .int (i32 (0)), .int (i32 (0)), .int (i32 (G 13)), .int (i32 (1)), .ref 66]) rfl rfl rfl rfl ?_
          refine jx_vr (pc' := 78) (as := [.int (i32 (1)), .int (i32 (G 13)), .int (i32 (0)), .int (i32 (0)), .int (i32 (0))]) (st := []) rfl rfl rfl rfl ⟨rfl, rfl, Nat.le_of_ble_eq_true rfl⟩ rfl rfl (c_node_o (dd := d) (hd := by omega) (hW := hW96) (kind := 1) (a := G 13) (b := 0) (c := 0) (e := 0) (nd := nd) (e_nd := show G92 31 = nd from ((hF97.1 31 rfl).trans (e_nd))) (ec := ec) (e_ec := show ecn A93 (G92 31) = ec from ec106) (sy := sy) (e_sy := show G92 19 = sy from ((hF97.1 19 rfl).trans (e_sy)))  (h_kind := ⟨(by decide), (by decide)⟩) (h_a := ⟨(Int.le_trans (by decide : (-2147483648 : Int) ≤ -2147483648) b90.1), (Int.le_trans b90.2 (by decide : (2147483647 : Int) ≤ 2147483647))⟩) (h_b := ⟨(by decide), (by decide)⟩) (h_c := ⟨(by decide), (by decide)⟩) (h_e := ⟨(by decide), (by decide)⟩)  (p_0 := by omega) (p_1 := by omega) (p_2 := by omega)) (fun o V' hq => ?_)
          obtain ⟨G108, A109, nd2_110, ec2_111, rfl, rfl, hW112, hF113, hQ114, e115, e116, p117, p118, p119, p120, -⟩ := hq
          have hF122 := Fr_tr hF104 hF113 (Fr_sub (by decide)) (Fr_sub (by decide))
          have hP123 := Pf_tr hP105 hQ114 (by omega)
          have bnd2_110 : (0 : Int) ≤ nd2_110 ∧ nd2_110 ≤ 6999 := e115 ▸ hW112.1 31
          refine .inr ⟨_, rfl, ?_⟩
          refine jx_rt (v := some (.int (i32 (nd)))) rfl rfl rfl rfl rfl rfl ?_
          have z124 := tz_f (tk2_95)
          exact ⟨_, _, _, at2_94, fk, op0, nd2_110, tk2_95, ec2_111, rfl, rfl, hW112, hF122, hP123, by omega, ((hF113.1 10 rfl).trans (e98)), ((hF113.1 16 rfl).trans ((hF97.1 16 rfl).trans (e_fk))), ((hF113.1 15 rfl).trans ((hF97.1 15 rfl).trans (e_op0))), (e115), ((hF113.1 11 rfl).trans (e99)), e116, by omega, by omega, by omega, by omega, by omega, by omega, by first | exact Or.inr (Or.inr ((⟨by omega, by omega, by omega, (wE_num p119 (by omega) (by omega)), by omega, (NdM_w p120 (by omega) (by omega) (by omega)), by omega⟩)))⟩
      · have _q := h10
        refine jx_ld (pc' := 18) (l' := [(0, .ref 66)]) (st' := [.ref 66]) rfl (jl_aloadn rfl) ?_
        refine jx_ar (pc' := 20) (st' := [.int (i32 (14)), .ref 66]) rfl rfl rfl rfl ?_
        have b125 : (-2147483648 : Int) ≤ G 13 ∧ G 13 ≤ 2147483647 := hW.1 13
        refine jx_vr (pc' := 23) (as := [.int (i32 (14))]) (st := []) rfl rfl rfl rfl ⟨rfl, rfl, Nat.le_of_ble_eq_true rfl⟩ rfl rfl (c_isKey (dd := d) (hd := by omega) (hW := hW) (k := 14) (tk := tk0) (e_tk := show G 11 = tk0 from (e_tk0)) (tn := G 13) (e_tn := show G 13 = G 13 from rfl)  (h_k := ⟨(by decide), (by decide)⟩)  ) (fun o V' hq => ?_)
        obtain ⟨r126, rfl, rfl, b127, q128⟩ := hq
        refine .inr ⟨_, rfl, ?_⟩
        rcases q128 with ⟨rfl, a129, a130, a131⟩ | rfl
        · have _q : True := trivial
          refine jx_if_ne (pc' := 26) (tg := 35) rfl rfl rfl (by decide) (by decide) (fun h132 => ?_) (fun h132 => ?_)
          · have _q := h132
            refine jx_ld (pc' := 36) (l' := [(0, .ref 66)]) (st' := [.ref 66]) rfl (jl_aloadn rfl) ?_
            have z133 := tz_f (tk0)
            refine jr_get (pc' := 39) (i := 11) (v := .int (i32 (tk0))) rfl rfl (by decide) (rFv_eq (by decide) (show G 11 = tk0 from (e_tk0))) rfl ?_
            refine jx_ar (pc' := 40) (st' := [.int (i32 (3)), .int (i32 (tk0))]) rfl rfl rfl rfl ?_
            refine jx_icmp_ne (pc' := 43) (tg := 50) rfl rfl rfl (Int.le_trans (by decide : (-2147483648 : Int) ≤ 0) b_tk0.1) (Int.le_trans b_tk0.2 (by decide : (5 : Int) ≤ 2147483647)) (by decide) (by decide) (fun h134 => ?_) (fun h134 => ?_)
            · have _q := h134
              refine jx_ld (pc' := 51) (l' := [(0, .ref 66)]) (st' := [.ref 66]) rfl (jl_aloadn rfl) ?_
              refine jx_ar (pc' := 53) (st' := [.int (i32 (14)), .ref 66]) rfl rfl rfl rfl ?_
              refine jx_vr (pc' := 56) (as := [.int (i32 (14))]) (st := []) rfl rfl rfl rfl ⟨rfl, rfl, Nat.le_of_ble_eq_true rfl⟩ rfl rfl (c_isKey (dd := d) (hd := by omega) (hW := hW) (k := 14) (tk := tk0) (e_tk := show G 11 = tk0 from (e_tk0)) (tn := G 13) (e_tn := show G 13 = G 13 from rfl)  (h_k := ⟨(by decide), (by decide)⟩)  ) (fun o V' hq => ?_)
              obtain ⟨r135, rfl, rfl, b136, q137⟩ := hq
              refine .inr ⟨_, rfl, ?_⟩
              rcases q137 with ⟨rfl, a138, a139, a140⟩ | rfl
              · have _q : True := trivial
                refine jx_if_eq (pc' := 59) (tg := 63) rfl rfl rfl (by decide) (by decide) (fun h141 => ?_) (fun h141 => ?_)
                · have _q := h141
                  exact absurd h141 (by omega)
                · have _q := h141
                  refine jx_ar (pc' := 60) (st' := [.int (i32 (1))]) rfl rfl rfl rfl ?_
                  refine jx_go (tg := 64) rfl rfl ?_
                  refine jx_ld (pc' := 65) (l' := jSto1 [(0, .ref 66)] 1 (.int (i32 (1)))) (st' := []) rfl rfl ?_
                  obtain ⟨L142, eL142⟩ : ∃ q, q = jSto1 [(0, .ref 66)] 1 (.int (i32 (1))) := ⟨_, rfl⟩
                  rw [← eL142]
                  have gL142_0 : jGet L142 0 = some (.ref 66) := eL142 ▸ jg_ne (by decide) (rfl : jGet [(0, .ref 66)] 0 = some (.ref 66)) rfl
                  have gL142_1 : jGet L142 1 = some (.int (i32 (1))) := eL142 ▸ jg_eq
                  refine jx_ld (pc' := 66) (l' := L142) (st' := [.ref 66]) rfl (jl_aloadn gL142_0) ?_
                  refine jx_vr (pc' := 69) (as := []) (st := []) rfl rfl rfl rfl ⟨rfl, rfl, Nat.le_of_ble_eq_true rfl⟩ rfl rfl (c_next (dd := d) (hd := by omega) (hW := hW)  (ln := ln) (e_ln := show G 9 = ln from (e_ln)) (le := le) (e_le := show A 4 (ln).toNat = le from (e_le)) (at0 := at0) (e_at0 := show G 10 = at0 from (e_at0))    (p_0 := by omega)) (fun o V' hq => ?_)
                  obtain ⟨G143, A144, at2_145, tk2_146, rfl, rfl, hW147, hF148, e149, e150, p151, p152, p153, -⟩ := hq
                  have hF155 := Fr_tr hF0 hF148 (Fr_sub (by decide)) (Fr_sub (by decide))
                  have hP156 := Pf_f hP0 hF148 (by decide)
                  have ec157 : ecn A144 (G143 31) = ec := (ecn_f (hF148.2 15 rfl) (hF148.1 31 rfl)).trans e_ec
                  have bat2_145 : (0 : Int) ≤ at2_145 ∧ at2_145 ≤ 3002 := e149 ▸ hW147.1 10
                  have ztk2_146 := tz_b tk2_146
                  have btk2_146 : (0 : Int) ≤ tk2_146 ∧ tk2_146 ≤ 5 := e150 ▸ hW147.1 11
                  refine .inl ⟨rfl, ?_⟩
                  have pz158 : at0 + tz tk2_146 ≤ at2_145 := by omega
                  refine jx_ld (pc' := 70) (l' := L142) (st' := [.ref 66]) rfl (jl_aloadn gL142_0) ?_
                  refine jx_ar (pc' := 71) (st' := [.int (i32 (1)), .ref 66]) rfl rfl rfl rfl ?_
                  refine jx_ld (pc' := 72) (l' := L142) (st' := [.int (i32 (1)), .int (i32 (1)), .ref 66]) rfl (jl_iloadn gL142_1) ?_
                  refine jx_ar (pc' := 73) (st' := [.int (i32 (0)), .int (i32 (1)), .int (i32 (1)), .ref 66]) rfl rfl rfl rfl ?_
                  refine jx_ar (pc' := 74) (st' := [.int (i32 (0)), .int (i32 (0)), .int (i32 (1)), .int (i32 (1)), .ref 66]) rfl rfl rfl rfl ?_
                  refine jx_ar (pc' := 75) (st' := [.int (i32 (0)), .int (i32 (0)), .int (i32 (0)), .int (i32 (1)), .int (i32 (1)), .ref 66]) rfl rfl rfl rfl ?_
                  refine jx_vr (pc' := 78) (as := [.int (i32 (1)), .int (i32 (1)), .int (i32 (0)), .int (i32 (0)), .int (i32 (0))]) (st := []) rfl rfl rfl rfl ⟨rfl, rfl, Nat.le_of_ble_eq_true rfl⟩ rfl rfl (c_node_o (dd := d) (hd := by omega) (hW := hW147) (kind := 1) (a := 1) (b := 0) (c := 0) (e := 0) (nd := nd) (e_nd := show G143 31 = nd from ((hF148.1 31 rfl).trans (e_nd))) (ec := ec) (e_ec := show ecn A144 (G143 31) = ec from ec157) (sy := sy) (e_sy := show G143 19 = sy from ((hF148.1 19 rfl).trans (e_sy)))  (h_kind := ⟨(by decide), (by decide)⟩) (h_a := ⟨(by decide), (by decide)⟩) (h_b := ⟨(by decide), (by decide)⟩) (h_c := ⟨(by decide), (by decide)⟩) (h_e := ⟨(by decide), (by decide)⟩)  (p_0 := by omega) (p_1 := by omega) (p_2 := by omega)) (fun o V' hq => ?_)
                  obtain ⟨G159, A160, nd2_161, ec2_162, rfl, rfl, hW163, hF164, hQ165, e166, e167, p168, p169, p170, p171, -⟩ := hq
                  have hF173 := Fr_tr hF155 hF164 (Fr_sub (by decide)) (Fr_sub (by decide))
                  have hP174 := Pf_tr hP156 hQ165 (by omega)
                  have bnd2_161 : (0 : Int) ≤ nd2_161 ∧ nd2_161 ≤ 6999 := e166 ▸ hW163.1 31
                  refine .inr ⟨_, rfl, ?_⟩
                  refine jx_rt (v := some (.int (i32 (nd)))) rfl rfl rfl rfl rfl rfl ?_
                  have z175 := tz_f (tk2_146)
                  exact ⟨_, _, _, at2_145, fk, op0, nd2_161, tk2_146, ec2_162, rfl, rfl, hW163, hF173, hP174, by omega, ((hF164.1 10 rfl).trans (e149)), ((hF164.1 16 rfl).trans ((hF148.1 16 rfl).trans (e_fk))), ((hF164.1 15 rfl).trans ((hF148.1 15 rfl).trans (e_op0))), (e166), ((hF164.1 11 rfl).trans (e150)), e167, by omega, by omega, by omega, by omega, by omega, by omega, by first | exact Or.inr (Or.inr ((⟨by omega, by omega, by omega, (wE_num p170 (by omega) (by omega)), by omega, (NdM_w p171 (by omega) (by omega) (by omega)), by omega⟩)))⟩
              · have _q : True := trivial
                refine jx_if_eq (pc' := 59) (tg := 63) rfl rfl rfl (by decide) (by decide) (fun h176 => ?_) (fun h176 => ?_)
                · have _q := h176
                  refine jx_ar (pc' := 64) (st' := [.int (i32 (0))]) rfl rfl rfl rfl ?_
                  refine jx_ld (pc' := 65) (l' := jSto1 [(0, .ref 66)] 1 (.int (i32 (0)))) (st' := []) rfl rfl ?_
                  obtain ⟨L177, eL177⟩ : ∃ q, q = jSto1 [(0, .ref 66)] 1 (.int (i32 (0))) := ⟨_, rfl⟩
                  rw [← eL177]
                  have gL177_0 : jGet L177 0 = some (.ref 66) := eL177 ▸ jg_ne (by decide) (rfl : jGet [(0, .ref 66)] 0 = some (.ref 66)) rfl
                  have gL177_1 : jGet L177 1 = some (.int (i32 (0))) := eL177 ▸ jg_eq
                  refine jx_ld (pc' := 66) (l' := L177) (st' := [.ref 66]) rfl (jl_aloadn gL177_0) ?_
                  refine jx_vr (pc' := 69) (as := []) (st := []) rfl rfl rfl rfl ⟨rfl, rfl, Nat.le_of_ble_eq_true rfl⟩ rfl rfl (c_next (dd := d) (hd := by omega) (hW := hW)  (ln := ln) (e_ln := show G 9 = ln from (e_ln)) (le := le) (e_le := show A 4 (ln).toNat = le from (e_le)) (at0 := at0) (e_at0 := show G 10 = at0 from (e_at0))    (p_0 := by omega)) (fun o V' hq => ?_)
                  obtain ⟨G178, A179, at2_180, tk2_181, rfl, rfl, hW182, hF183, e184, e185, p186, p187, p188, -⟩ := hq
                  have hF190 := Fr_tr hF0 hF183 (Fr_sub (by decide)) (Fr_sub (by decide))
                  have hP191 := Pf_f hP0 hF183 (by decide)
                  have ec192 : ecn A179 (G178 31) = ec := (ecn_f (hF183.2 15 rfl) (hF183.1 31 rfl)).trans e_ec
                  have bat2_180 : (0 : Int) ≤ at2_180 ∧ at2_180 ≤ 3002 := e184 ▸ hW182.1 10
                  have ztk2_181 := tz_b tk2_181
                  have btk2_181 : (0 : Int) ≤ tk2_181 ∧ tk2_181 ≤ 5 := e185 ▸ hW182.1 11
                  refine .inl ⟨rfl, ?_⟩
                  have pz193 : at0 + tz tk2_181 ≤ at2_180 := by omega
                  refine jx_ld (pc' := 70) (l' := L177) (st' := [.ref 66]) rfl (jl_aloadn gL177_0) ?_
                  refine jx_ar (pc' := 71) (st' := [.int (i32 (1)), .ref 66]) rfl rfl rfl rfl ?_
                  refine jx_ld (pc' := 72) (l' := L177) (st' := [.int (i32 (0)), .int (i32 (1)), .ref 66]) rfl (jl_iloadn gL177_1) ?_
                  refine jx_ar (pc' := 73) (st' := [.int (i32 (0)), .int (i32 (0)), .int (i32 (1)), .ref 66]) rfl rfl rfl rfl ?_
                  refine jx_ar (pc' := 74) (st' := [.int (i32 (0)), .int (i32 (0)), .int (i32 (0)), .int (i32 (1)), .ref 66]) rfl rfl rfl rfl ?_
                  refine jx_ar (pc' := 75) (st' := [.int (i32 (0)), .int (i32 (0)), .int (i32 (0)), .int (i32 (0)), .int (i32 (1)), .ref 66]) rfl rfl rfl rfl ?_
                  refine jx_vr (pc' := 78) (as := [.int (i32 (1)), .int (i32 (0)), .int (i32 (0)), .int (i32 (0)), .int (i32 (0))]) (st := []) rfl rfl rfl rfl ⟨rfl, rfl, Nat.le_of_ble_eq_true rfl⟩ rfl rfl (c_node_o (dd := d) (hd := by omega) (hW := hW182) (kind := 1) (a := 0) (b := 0) (c := 0) (e := 0) (nd := nd) (e_nd := show G178 31 = nd from ((hF183.1 31 rfl).trans (e_nd))) (ec := ec) (e_ec := show ecn A179 (G178 31) = ec from ec192) (sy := sy) (e_sy := show G178 19 = sy from ((hF183.1 19 rfl).trans (e_sy)))  (h_kind := ⟨(by decide), (by decide)⟩) (h_a := ⟨(by decide), (by decide)⟩) (h_b := ⟨(by decide), (by decide)⟩) (h_c := ⟨(by decide), (by decide)⟩) (h_e := ⟨(by decide), (by decide)⟩)  (p_0 := by omega) (p_1 := by omega) (p_2 := by omega)) (fun o V' hq => ?_)
                  obtain ⟨G194, A195, nd2_196, ec2_197, rfl, rfl, hW198, hF199, hQ200, e201, e202, p203, p204, p205, p206, -⟩ := hq
                  have hF208 := Fr_tr hF190 hF199 (Fr_sub (by decide)) (Fr_sub (by decide))
                  have hP209 := Pf_tr hP191 hQ200 (by omega)
                  have bnd2_196 : (0 : Int) ≤ nd2_196 ∧ nd2_196 ≤ 6999 := e201 ▸ hW198.1 31
                  refine .inr ⟨_, rfl, ?_⟩
                  refine jx_rt (v := some (.int (i32 (nd)))) rfl rfl rfl rfl rfl rfl ?_
                  have z210 := tz_f (tk2_181)
                  exact ⟨_, _, _, at2_180, fk, op0, nd2_196, tk2_181, ec2_197, rfl, rfl, hW198, hF208, hP209, by omega, ((hF199.1 10 rfl).trans (e184)), ((hF199.1 16 rfl).trans ((hF183.1 16 rfl).trans (e_fk))), ((hF199.1 15 rfl).trans ((hF183.1 15 rfl).trans (e_op0))), (e201), ((hF199.1 11 rfl).trans (e185)), e202, by omega, by omega, by omega, by omega, by omega, by omega, by first | exact Or.inr (Or.inr ((⟨by omega, by omega, by omega, (wE_num p205 (by omega) (by omega)), by omega, (NdM_w p206 (by omega) (by omega) (by omega)), by omega⟩)))⟩
                · have _q := h176
                  exact absurd h176 (by omega)
            · have _q := h134
              refine jx_ld (pc' := 44) (l' := [(0, .ref 66)]) (st' := [.ref 66]) rfl (jl_aloadn rfl) ?_
              refine jr_get (pc' := 47) (i := 13) (v := .int (i32 (G 13))) rfl rfl (by decide) rfl rfl ?_
              refine jx_go (tg := 64) rfl rfl ?_
              refine jx_ld (pc' := 65) (l' := jSto1 [(0, .ref 66)] 1 (.int (i32 (G 13)))) (st' := []) rfl rfl ?_
              obtain ⟨L211, eL211⟩ : ∃ q, q = jSto1 [(0, .ref 66)] 1 (.int (i32 (G 13))) := ⟨_, rfl⟩
              rw [← eL211]
              have gL211_0 : jGet L211 0 = some (.ref 66) := eL211 ▸ jg_ne (by decide) (rfl : jGet [(0, .ref 66)] 0 = some (.ref 66)) rfl
              have gL211_1 : jGet L211 1 = some (.int (i32 (G 13))) := eL211 ▸ jg_eq
              refine jx_ld (pc' := 66) (l' := L211) (st' := [.ref 66]) rfl (jl_aloadn gL211_0) ?_
              refine jx_vr (pc' := 69) (as := []) (st := []) rfl rfl rfl rfl ⟨rfl, rfl, Nat.le_of_ble_eq_true rfl⟩ rfl rfl (c_next (dd := d) (hd := by omega) (hW := hW)  (ln := ln) (e_ln := show G 9 = ln from (e_ln)) (le := le) (e_le := show A 4 (ln).toNat = le from (e_le)) (at0 := at0) (e_at0 := show G 10 = at0 from (e_at0))    (p_0 := by omega)) (fun o V' hq => ?_)
              obtain ⟨G212, A213, at2_214, tk2_215, rfl, rfl, hW216, hF217, e218, e219, p220, p221, p222, -⟩ := hq
              have hF224 := Fr_tr hF0 hF217 (Fr_sub (by decide)) (Fr_sub (by decide))
              have hP225 := Pf_f hP0 hF217 (by decide)
              have ec226 : ecn A213 (G212 31) = ec := (ecn_f (hF217.2 15 rfl) (hF217.1 31 rfl)).trans e_ec
              have bat2_214 : (0 : Int) ≤ at2_214 ∧ at2_214 ≤ 3002 := e218 ▸ hW216.1 10
              have ztk2_215 := tz_b tk2_215
              have btk2_215 : (0 : Int) ≤ tk2_215 ∧ tk2_215 ≤ 5 := e219 ▸ hW216.1 11
              refine .inl ⟨rfl, ?_⟩
              have pz227 : at0 + tz tk2_215 ≤ at2_214 := by omega
              refine jx_ld (pc' := 70) (l' := L211) (st' := [.ref 66]) rfl (jl_aloadn gL211_0) ?_
              refine jx_ar (pc' := 71) (st' := [.int (i32 (1)), .ref 66]) rfl rfl rfl rfl ?_
              refine jx_ld (pc' := 72) (l' := L211) (st' := [.int (i32 (G 13)), .int (i32 (1)), .ref 66]) rfl (jl_iloadn gL211_1) ?_
              refine jx_ar (pc' := 73) (st' := [.int (i32 (0)), .int (i32 (G 13)), .int (i32 (1)), .ref 66]) rfl rfl rfl rfl ?_
              refine jx_ar (pc' := 74) (st' := [.int (i32 (0)), .int (i32 (0)), .int (i32 (G 13)), .int (i32 (1)), .ref 66]) rfl rfl rfl rfl ?_
              refine jx_ar (pc' := 75) (st' := [.int (i32 (0)), .int (i32 (0)), .int (i32 (0)), .int (i32 (G 13)), .int (i32 (1)), .ref 66]) rfl rfl rfl rfl ?_
              refine jx_vr (pc' := 78) (as := [.int (i32 (1)), .int (i32 (G 13)), .int (i32 (0)), .int (i32 (0)), .int (i32 (0))]) (st := []) rfl rfl rfl rfl ⟨rfl, rfl, Nat.le_of_ble_eq_true rfl⟩ rfl rfl (c_node_o (dd := d) (hd := by omega) (hW := hW216) (kind := 1) (a := G 13) (b := 0) (c := 0) (e := 0) (nd := nd) (e_nd := show G212 31 = nd from ((hF217.1 31 rfl).trans (e_nd))) (ec := ec) (e_ec := show ecn A213 (G212 31) = ec from ec226) (sy := sy) (e_sy := show G212 19 = sy from ((hF217.1 19 rfl).trans (e_sy)))  (h_kind := ⟨(by decide), (by decide)⟩) (h_a := ⟨(Int.le_trans (by decide : (-2147483648 : Int) ≤ -2147483648) b125.1), (Int.le_trans b125.2 (by decide : (2147483647 : Int) ≤ 2147483647))⟩) (h_b := ⟨(by decide), (by decide)⟩) (h_c := ⟨(by decide), (by decide)⟩) (h_e := ⟨(by decide), (by decide)⟩)  (p_0 := by omega) (p_1 := by omega) (p_2 := by omega)) (fun o V' hq => ?_)
              obtain ⟨G228, A229, nd2_230, ec2_231, rfl, rfl, hW232, hF233, hQ234, e235, e236, p237, p238, p239, p240, -⟩ := hq
              have hF242 := Fr_tr hF224 hF233 (Fr_sub (by decide)) (Fr_sub (by decide))
              have hP243 := Pf_tr hP225 hQ234 (by omega)
              have bnd2_230 : (0 : Int) ≤ nd2_230 ∧ nd2_230 ≤ 6999 := e235 ▸ hW232.1 31
              refine .inr ⟨_, rfl, ?_⟩
              refine jx_rt (v := some (.int (i32 (nd)))) rfl rfl rfl rfl rfl rfl ?_
              have z244 := tz_f (tk2_215)
              exact ⟨_, _, _, at2_214, fk, op0, nd2_230, tk2_215, ec2_231, rfl, rfl, hW232, hF242, hP243, by omega, ((hF233.1 10 rfl).trans (e218)), ((hF233.1 16 rfl).trans ((hF217.1 16 rfl).trans (e_fk))), ((hF233.1 15 rfl).trans ((hF217.1 15 rfl).trans (e_op0))), (e235), ((hF233.1 11 rfl).trans (e219)), e236, by omega, by omega, by omega, by omega, by omega, by omega, by first | exact Or.inr (Or.inr ((⟨by omega, by omega, by omega, (wE_num p239 (by omega) (by omega)), by omega, (NdM_w p240 (by omega) (by omega) (by omega)), by omega⟩)))⟩
          · have _q := h132
            exact absurd h132 (by omega)
        · have _q : True := trivial
          refine jx_if_ne (pc' := 26) (tg := 35) rfl rfl rfl (by decide) (by decide) (fun h245 => ?_) (fun h245 => ?_)
          · have _q := h245
            exact absurd h245 (by omega)
          · have _q := h245
            refine jx_ld (pc' := 27) (l' := [(0, .ref 66)]) (st' := [.ref 66]) rfl (jl_aloadn rfl) ?_
            refine jx_ar (pc' := 29) (st' := [.int (i32 (15)), .ref 66]) rfl rfl rfl rfl ?_
            refine jx_vr (pc' := 32) (as := [.int (i32 (15))]) (st := []) rfl rfl rfl rfl ⟨rfl, rfl, Nat.le_of_ble_eq_true rfl⟩ rfl rfl (c_isKey (dd := d) (hd := by omega) (hW := hW) (k := 15) (tk := tk0) (e_tk := show G 11 = tk0 from (e_tk0)) (tn := G 13) (e_tn := show G 13 = G 13 from rfl)  (h_k := ⟨(by decide), (by decide)⟩)  ) (fun o V' hq => ?_)
            obtain ⟨r246, rfl, rfl, b247, q248⟩ := hq
            refine .inr ⟨_, rfl, ?_⟩
            rcases q248 with ⟨rfl, a249, a250, a251⟩ | rfl
            · have _q : True := trivial
              refine jx_if_eq (pc' := 35) (tg := 79) rfl rfl rfl (by decide) (by decide) (fun h252 => ?_) (fun h252 => ?_)
              · have _q := h252
                exact absurd h252 (by omega)
              · have _q := h252
                refine jx_ld (pc' := 36) (l' := [(0, .ref 66)]) (st' := [.ref 66]) rfl (jl_aloadn rfl) ?_
                have z253 := tz_f (tk0)
                refine jr_get (pc' := 39) (i := 11) (v := .int (i32 (tk0))) rfl rfl (by decide) (rFv_eq (by decide) (show G 11 = tk0 from (e_tk0))) rfl ?_
                refine jx_ar (pc' := 40) (st' := [.int (i32 (3)), .int (i32 (tk0))]) rfl rfl rfl rfl ?_
                refine jx_icmp_ne (pc' := 43) (tg := 50) rfl rfl rfl (Int.le_trans (by decide : (-2147483648 : Int) ≤ 0) b_tk0.1) (Int.le_trans b_tk0.2 (by decide : (5 : Int) ≤ 2147483647)) (by decide) (by decide) (fun h254 => ?_) (fun h254 => ?_)
                · have _q := h254
                  refine jx_ld (pc' := 51) (l' := [(0, .ref 66)]) (st' := [.ref 66]) rfl (jl_aloadn rfl) ?_
                  refine jx_ar (pc' := 53) (st' := [.int (i32 (14)), .ref 66]) rfl rfl rfl rfl ?_
                  refine jx_vr (pc' := 56) (as := [.int (i32 (14))]) (st := []) rfl rfl rfl rfl ⟨rfl, rfl, Nat.le_of_ble_eq_true rfl⟩ rfl rfl (c_isKey (dd := d) (hd := by omega) (hW := hW) (k := 14) (tk := tk0) (e_tk := show G 11 = tk0 from (e_tk0)) (tn := G 13) (e_tn := show G 13 = G 13 from rfl)  (h_k := ⟨(by decide), (by decide)⟩)  ) (fun o V' hq => ?_)
                  obtain ⟨r255, rfl, rfl, b256, q257⟩ := hq
                  refine .inr ⟨_, rfl, ?_⟩
                  rcases q257 with ⟨rfl, a258, a259, a260⟩ | rfl
                  · have _q : True := trivial
                    refine jx_if_eq (pc' := 59) (tg := 63) rfl rfl rfl (by decide) (by decide) (fun h261 => ?_) (fun h261 => ?_)
                    · have _q := h261
                      exact absurd h261 (by omega)
                    · have _q := h261
                      refine jx_ar (pc' := 60) (st' := [.int (i32 (1))]) rfl rfl rfl rfl ?_
                      refine jx_go (tg := 64) rfl rfl ?_
                      refine jx_ld (pc' := 65) (l' := jSto1 [(0, .ref 66)] 1 (.int (i32 (1)))) (st' := []) rfl rfl ?_
                      obtain ⟨L262, eL262⟩ : ∃ q, q = jSto1 [(0, .ref 66)] 1 (.int (i32 (1))) := ⟨_, rfl⟩
                      rw [← eL262]
                      have gL262_0 : jGet L262 0 = some (.ref 66) := eL262 ▸ jg_ne (by decide) (rfl : jGet [(0, .ref 66)] 0 = some (.ref 66)) rfl
                      have gL262_1 : jGet L262 1 = some (.int (i32 (1))) := eL262 ▸ jg_eq
                      refine jx_ld (pc' := 66) (l' := L262) (st' := [.ref 66]) rfl (jl_aloadn gL262_0) ?_
                      refine jx_vr (pc' := 69) (as := []) (st := []) rfl rfl rfl rfl ⟨rfl, rfl, Nat.le_of_ble_eq_true rfl⟩ rfl rfl (c_next (dd := d) (hd := by omega) (hW := hW)  (ln := ln) (e_ln := show G 9 = ln from (e_ln)) (le := le) (e_le := show A 4 (ln).toNat = le from (e_le)) (at0 := at0) (e_at0 := show G 10 = at0 from (e_at0))    (p_0 := by omega)) (fun o V' hq => ?_)
                      obtain ⟨G263, A264, at2_265, tk2_266, rfl, rfl, hW267, hF268, e269, e270, p271, p272, p273, -⟩ := hq
                      have hF275 := Fr_tr hF0 hF268 (Fr_sub (by decide)) (Fr_sub (by decide))
                      have hP276 := Pf_f hP0 hF268 (by decide)
                      have ec277 : ecn A264 (G263 31) = ec := (ecn_f (hF268.2 15 rfl) (hF268.1 31 rfl)).trans e_ec
                      have bat2_265 : (0 : Int) ≤ at2_265 ∧ at2_265 ≤ 3002 := e269 ▸ hW267.1 10
                      have ztk2_266 := tz_b tk2_266
                      have btk2_266 : (0 : Int) ≤ tk2_266 ∧ tk2_266 ≤ 5 := e270 ▸ hW267.1 11
                      refine .inl ⟨rfl, ?_⟩
                      have pz278 : at0 + tz tk2_266 ≤ at2_265 := by omega
                      refine jx_ld (pc' := 70) (l' := L262) (st' := [.ref 66]) rfl (jl_aloadn gL262_0) ?_
                      refine jx_ar (pc' := 71) (st' := [.int (i32 (1)), .ref 66]) rfl rfl rfl rfl ?_
                      refine jx_ld (pc' := 72) (l' := L262) (st' := [.int (i32 (1)), .int (i32 (1)), .ref 66]) rfl (jl_iloadn gL262_1) ?_
                      refine jx_ar (pc' := 73) (st' := [.int (i32 (0)), .int (i32 (1)), .int (i32 (1)), .ref 66]) rfl rfl rfl rfl ?_
                      refine jx_ar (pc' := 74) (st' := [.int (i32 (0)), .int (i32 (0)), .int (i32 (1)), .int (i32 (1)), .ref 66]) rfl rfl rfl rfl ?_
                      refine jx_ar (pc' := 75) (st' := [.int (i32 (0)), .int (i32 (0)), .int (i32 (0)), .int (i32 (1)), .int (i32 (1)), .ref 66]) rfl rfl rfl rfl ?_
                      refine jx_vr (pc' := 78) (as := [.int (i32 (1)), .int (i32 (1)), .int (i32 (0)), .int (i32 (0)), .int (i32 (0))]) (st := []) rfl rfl rfl rfl ⟨rfl, rfl, Nat.le_of_ble_eq_true rfl⟩ rfl rfl (c_node_o (dd := d) (hd := by omega) (hW := hW267) (kind := 1) (a := 1) (b := 0) (c := 0) (e := 0) (nd := nd) (e_nd := show G263 31 = nd from ((hF268.1 31 rfl).trans (e_nd))) (ec := ec) (e_ec := show ecn A264 (G263 31) = ec from ec277) (sy := sy) (e_sy := show G263 19 = sy from ((hF268.1 19 rfl).trans (e_sy)))  (h_kind := ⟨(by decide), (by decide)⟩) (h_a := ⟨(by decide), (by decide)⟩) (h_b := ⟨(by decide), (by decide)⟩) (h_c := ⟨(by decide), (by decide)⟩) (h_e := ⟨(by decide), (by decide)⟩)  (p_0 := by omega) (p_1 := by omega) (p_2 := by omega)) (fun o V' hq => ?_)
                      obtain ⟨G279, A280, nd2_281, ec2_282, rfl, rfl, hW283, hF284, hQ285, e286, e287, p288, p289, p290, p291, -⟩ := hq
                      have hF293 := Fr_tr hF275 hF284 (Fr_sub (by decide)) (Fr_sub (by decide))
                      have hP294 := Pf_tr hP276 hQ285 (by omega)
                      have bnd2_281 : (0 : Int) ≤ nd2_281 ∧ nd2_281 ≤ 6999 := e286 ▸ hW283.1 31
                      refine .inr ⟨_, rfl, ?_⟩
                      refine jx_rt (v := some (.int (i32 (nd)))) rfl rfl rfl rfl rfl rfl ?_
                      have z295 := tz_f (tk2_266)
                      exact ⟨_, _, _, at2_265, fk, op0, nd2_281, tk2_266, ec2_282, rfl, rfl, hW283, hF293, hP294, by omega, ((hF284.1 10 rfl).trans (e269)), ((hF284.1 16 rfl).trans ((hF268.1 16 rfl).trans (e_fk))), ((hF284.1 15 rfl).trans ((hF268.1 15 rfl).trans (e_op0))), (e286), ((hF284.1 11 rfl).trans (e270)), e287, by omega, by omega, by omega, by omega, by omega, by omega, by first | exact Or.inr (Or.inr ((⟨by omega, by omega, by omega, (wE_num p290 (by omega) (by omega)), by omega, (NdM_w p291 (by omega) (by omega) (by omega)), by omega⟩)))⟩
                  · have _q : True := trivial
                    refine jx_if_eq (pc' := 59) (tg := 63) rfl rfl rfl (by decide) (by decide) (fun h296 => ?_) (fun h296 => ?_)
                    · have _q := h296
                      refine jx_ar (pc' := 64) (st' := [.int (i32 (0))]) rfl rfl rfl rfl ?_
                      refine jx_ld (pc' := 65) (l' := jSto1 [(0, .ref 66)] 1 (.int (i32 (0)))) (st' := []) rfl rfl ?_
                      obtain ⟨L297, eL297⟩ : ∃ q, q = jSto1 [(0, .ref 66)] 1 (.int (i32 (0))) := ⟨_, rfl⟩
                      rw [← eL297]
                      have gL297_0 : jGet L297 0 = some (.ref 66) := eL297 ▸ jg_ne (by decide) (rfl : jGet [(0, .ref 66)] 0 = some (.ref 66)) rfl
                      have gL297_1 : jGet L297 1 = some (.int (i32 (0))) := eL297 ▸ jg_eq
                      refine jx_ld (pc' := 66) (l' := L297) (st' := [.ref 66]) rfl (jl_aloadn gL297_0) ?_
                      refine jx_vr (pc' := 69) (as := []) (st := []) rfl rfl rfl rfl ⟨rfl, rfl, Nat.le_of_ble_eq_true rfl⟩ rfl rfl (c_next (dd := d) (hd := by omega) (hW := hW)  (ln := ln) (e_ln := show G 9 = ln from (e_ln)) (le := le) (e_le := show A 4 (ln).toNat = le from (e_le)) (at0 := at0) (e_at0 := show G 10 = at0 from (e_at0))    (p_0 := by omega)) (fun o V' hq => ?_)
                      obtain ⟨G298, A299, at2_300, tk2_301, rfl, rfl, hW302, hF303, e304, e305, p306, p307, p308, -⟩ := hq
                      have hF310 := Fr_tr hF0 hF303 (Fr_sub (by decide)) (Fr_sub (by decide))
                      have hP311 := Pf_f hP0 hF303 (by decide)
                      have ec312 : ecn A299 (G298 31) = ec := (ecn_f (hF303.2 15 rfl) (hF303.1 31 rfl)).trans e_ec
                      have bat2_300 : (0 : Int) ≤ at2_300 ∧ at2_300 ≤ 3002 := e304 ▸ hW302.1 10
                      have ztk2_301 := tz_b tk2_301
                      have btk2_301 : (0 : Int) ≤ tk2_301 ∧ tk2_301 ≤ 5 := e305 ▸ hW302.1 11
                      refine .inl ⟨rfl, ?_⟩
                      have pz313 : at0 + tz tk2_301 ≤ at2_300 := by omega
                      refine jx_ld (pc' := 70) (l' := L297) (st' := [.ref 66]) rfl (jl_aloadn gL297_0) ?_
                      refine jx_ar (pc' := 71) (st' := [.int (i32 (1)), .ref 66]) rfl rfl rfl rfl ?_
                      refine jx_ld (pc' := 72) (l' := L297) (st' := [.int (i32 (0)), .int (i32 (1)), .ref 66]) rfl (jl_iloadn gL297_1) ?_
                      refine jx_ar (pc' := 73) (st' := [.int (i32 (0)), .int (i32 (0)), .int (i32 (1)), .ref 66]) rfl rfl rfl rfl ?_
                      refine jx_ar (pc' := 74) (st' := [.int (i32 (0)), .int (i32 (0)), .int (i32 (0)), .int (i32 (1)), .ref 66]) rfl rfl rfl rfl ?_
                      refine jx_ar (pc' := 75) (st' := [.int (i32 (0)), .int (i32 (0)), .int (i32 (0)), .int (i32 (0)), .int (i32 (1)), .ref 66]) rfl rfl rfl rfl ?_
                      refine jx_vr (pc' := 78) (as := [.int (i32 (1)), .int (i32 (0)), .int (i32 (0)), .int (i32 (0)), .int (i32 (0))]) (st := []) rfl rfl rfl rfl ⟨rfl, rfl, Nat.le_of_ble_eq_true rfl⟩ rfl rfl (c_node_o (dd := d) (hd := by omega) (hW := hW302) (kind := 1) (a := 0) (b := 0) (c := 0) (e := 0) (nd := nd) (e_nd := show G298 31 = nd from ((hF303.1 31 rfl).trans (e_nd))) (ec := ec) (e_ec := show ecn A299 (G298 31) = ec from ec312) (sy := sy) (e_sy := show G298 19 = sy from ((hF303.1 19 rfl).trans (e_sy)))  (h_kind := ⟨(by decide), (by decide)⟩) (h_a := ⟨(by decide), (by decide)⟩) (h_b := ⟨(by decide), (by decide)⟩) (h_c := ⟨(by decide), (by decide)⟩) (h_e := ⟨(by decide), (by decide)⟩)  (p_0 := by omega) (p_1 := by omega) (p_2 := by omega)) (fun o V' hq => ?_)
                      obtain ⟨G314, A315, nd2_316, ec2_317, rfl, rfl, hW318, hF319, hQ320, e321, e322, p323, p324, p325, p326, -⟩ := hq
                      have hF328 := Fr_tr hF310 hF319 (Fr_sub (by decide)) (Fr_sub (by decide))
                      have hP329 := Pf_tr hP311 hQ320 (by omega)
                      have bnd2_316 : (0 : Int) ≤ nd2_316 ∧ nd2_316 ≤ 6999 := e321 ▸ hW318.1 31
                      refine .inr ⟨_, rfl, ?_⟩
                      refine jx_rt (v := some (.int (i32 (nd)))) rfl rfl rfl rfl rfl rfl ?_
                      have z330 := tz_f (tk2_301)
                      exact ⟨_, _, _, at2_300, fk, op0, nd2_316, tk2_301, ec2_317, rfl, rfl, hW318, hF328, hP329, by omega, ((hF319.1 10 rfl).trans (e304)), ((hF319.1 16 rfl).trans ((hF303.1 16 rfl).trans (e_fk))), ((hF319.1 15 rfl).trans ((hF303.1 15 rfl).trans (e_op0))), (e321), ((hF319.1 11 rfl).trans (e305)), e322, by omega, by omega, by omega, by omega, by omega, by omega, by first | exact Or.inr (Or.inr ((⟨by omega, by omega, by omega, (wE_num p325 (by omega) (by omega)), by omega, (NdM_w p326 (by omega) (by omega) (by omega)), by omega⟩)))⟩
                    · have _q := h296
                      exact absurd h296 (by omega)
                · have _q := h254
                  refine jx_ld (pc' := 44) (l' := [(0, .ref 66)]) (st' := [.ref 66]) rfl (jl_aloadn rfl) ?_
                  refine jr_get (pc' := 47) (i := 13) (v := .int (i32 (G 13))) rfl rfl (by decide) rfl rfl ?_
                  refine jx_go (tg := 64) rfl rfl ?_
                  refine jx_ld (pc' := 65) (l' := jSto1 [(0, .ref 66)] 1 (.int (i32 (G 13)))) (st' := []) rfl rfl ?_
                  obtain ⟨L331, eL331⟩ : ∃ q, q = jSto1 [(0, .ref 66)] 1 (.int (i32 (G 13))) := ⟨_, rfl⟩
                  rw [← eL331]
                  have gL331_0 : jGet L331 0 = some (.ref 66) := eL331 ▸ jg_ne (by decide) (rfl : jGet [(0, .ref 66)] 0 = some (.ref 66)) rfl
                  have gL331_1 : jGet L331 1 = some (.int (i32 (G 13))) := eL331 ▸ jg_eq
                  refine jx_ld (pc' := 66) (l' := L331) (st' := [.ref 66]) rfl (jl_aloadn gL331_0) ?_
                  refine jx_vr (pc' := 69) (as := []) (st := []) rfl rfl rfl rfl ⟨rfl, rfl, Nat.le_of_ble_eq_true rfl⟩ rfl rfl (c_next (dd := d) (hd := by omega) (hW := hW)  (ln := ln) (e_ln := show G 9 = ln from (e_ln)) (le := le) (e_le := show A 4 (ln).toNat = le from (e_le)) (at0 := at0) (e_at0 := show G 10 = at0 from (e_at0))    (p_0 := by omega)) (fun o V' hq => ?_)
                  obtain ⟨G332, A333, at2_334, tk2_335, rfl, rfl, hW336, hF337, e338, e339, p340, p341, p342, -⟩ := hq
                  have hF344 := Fr_tr hF0 hF337 (Fr_sub (by decide)) (Fr_sub (by decide))
                  have hP345 := Pf_f hP0 hF337 (by decide)
                  have ec346 : ecn A333 (G332 31) = ec := (ecn_f (hF337.2 15 rfl) (hF337.1 31 rfl)).trans e_ec
                  have bat2_334 : (0 : Int) ≤ at2_334 ∧ at2_334 ≤ 3002 := e338 ▸ hW336.1 10
                  have ztk2_335 := tz_b tk2_335
                  have btk2_335 : (0 : Int) ≤ tk2_335 ∧ tk2_335 ≤ 5 := e339 ▸ hW336.1 11
                  refine .inl ⟨rfl, ?_⟩
                  have pz347 : at0 + tz tk2_335 ≤ at2_334 := by omega
                  refine jx_ld (pc' := 70) (l' := L331) (st' := [.ref 66]) rfl (jl_aloadn gL331_0) ?_
                  refine jx_ar (pc' := 71) (st' := [.int (i32 (1)), .ref 66]) rfl rfl rfl rfl ?_
                  refine jx_ld (pc' := 72) (l' := L331) (st' := [.int (i32 (G 13)), .int (i32 (1)), .ref 66]) rfl (jl_iloadn gL331_1) ?_
                  refine jx_ar (pc' := 73) (st' := [.int (i32 (0)), .int (i32 (G 13)), .int (i32 (1)), .ref 66]) rfl rfl rfl rfl ?_
                  refine jx_ar (pc' := 74) (st' := [.int (i32 (0)), .int (i32 (0)), .int (i32 (G 13)), .int (i32 (1)), .ref 66]) rfl rfl rfl rfl ?_
                  refine jx_ar (pc' := 75) (st' := [.int (i32 (0)), .int (i32 (0)), .int (i32 (0)), .int (i32 (G 13)), .int (i32 (1)), .ref 66]) rfl rfl rfl rfl ?_
                  refine jx_vr (pc' := 78) (as := [.int (i32 (1)), .int (i32 (G 13)), .int (i32 (0)), .int (i32 (0)), .int (i32 (0))]) (st := []) rfl rfl rfl rfl ⟨rfl, rfl, Nat.le_of_ble_eq_true rfl⟩ rfl rfl (c_node_o (dd := d) (hd := by omega) (hW := hW336) (kind := 1) (a := G 13) (b := 0) (c := 0) (e := 0) (nd := nd) (e_nd := show G332 31 = nd from ((hF337.1 31 rfl).trans (e_nd))) (ec := ec) (e_ec := show ecn A333 (G332 31) = ec from ec346) (sy := sy) (e_sy := show G332 19 = sy from ((hF337.1 19 rfl).trans (e_sy)))  (h_kind := ⟨(by decide), (by decide)⟩) (h_a := ⟨(Int.le_trans (by decide : (-2147483648 : Int) ≤ -2147483648) b125.1), (Int.le_trans b125.2 (by decide : (2147483647 : Int) ≤ 2147483647))⟩) (h_b := ⟨(by decide), (by decide)⟩) (h_c := ⟨(by decide), (by decide)⟩) (h_e := ⟨(by decide), (by decide)⟩)  (p_0 := by omega) (p_1 := by omega) (p_2 := by omega)) (fun o V' hq => ?_)
                  obtain ⟨G348, A349, nd2_350, ec2_351, rfl, rfl, hW352, hF353, hQ354, e355, e356, p357, p358, p359, p360, -⟩ := hq
                  have hF362 := Fr_tr hF344 hF353 (Fr_sub (by decide)) (Fr_sub (by decide))
                  have hP363 := Pf_tr hP345 hQ354 (by omega)
                  have bnd2_350 : (0 : Int) ≤ nd2_350 ∧ nd2_350 ≤ 6999 := e355 ▸ hW352.1 31
                  refine .inr ⟨_, rfl, ?_⟩
                  refine jx_rt (v := some (.int (i32 (nd)))) rfl rfl rfl rfl rfl rfl ?_
                  have z364 := tz_f (tk2_335)
                  exact ⟨_, _, _, at2_334, fk, op0, nd2_350, tk2_335, ec2_351, rfl, rfl, hW352, hF362, hP363, by omega, ((hF353.1 10 rfl).trans (e338)), ((hF353.1 16 rfl).trans ((hF337.1 16 rfl).trans (e_fk))), ((hF353.1 15 rfl).trans ((hF337.1 15 rfl).trans (e_op0))), (e355), ((hF353.1 11 rfl).trans (e339)), e356, by omega, by omega, by omega, by omega, by omega, by omega, by first | exact Or.inr (Or.inr ((⟨by omega, by omega, by omega, (wE_num p359 (by omega) (by omega)), by omega, (NdM_w p360 (by omega) (by omega) (by omega)), by omega⟩)))⟩
            · have _q : True := trivial
              refine jx_if_eq (pc' := 35) (tg := 79) rfl rfl rfl (by decide) (by decide) (fun h365 => ?_) (fun h365 => ?_)
              · have _q := h365
                refine jx_ld (pc' := 80) (l' := [(0, .ref 66)]) (st' := [.ref 66]) rfl (jl_aloadn rfl) ?_
                refine jx_ar (pc' := 82) (st' := [.int (i32 (40)), .ref 66]) rfl rfl rfl rfl ?_
                refine jx_vr (pc' := 85) (as := [.int (i32 (40))]) (st := []) rfl rfl rfl rfl ⟨rfl, rfl, Nat.le_of_ble_eq_true rfl⟩ rfl rfl (c_is (dd := d) (hd := by omega) (hW := hW) (k := 40) (tk := tk0) (e_tk := show G 11 = tk0 from (e_tk0)) (tn := G 13) (e_tn := show G 13 = G 13 from rfl)  (h_k := ⟨(by decide), (by decide)⟩)  ) (fun o V' hq => ?_)
                obtain ⟨r366, rfl, rfl, b367, q368⟩ := hq
                refine .inr ⟨_, rfl, ?_⟩
                rcases q368 with ⟨rfl, a369, a370, a371⟩ | rfl
                · have _q : True := trivial
                  refine jx_if_eq (pc' := 88) (tg := 133) rfl rfl rfl (by decide) (by decide) (fun h372 => ?_) (fun h372 => ?_)
                  · have _q := h372
                    exact absurd h372 (by omega)
                  · have _q := h372
                    refine jx_ld (pc' := 89) (l' := [(0, .ref 66)]) (st' := [.ref 66]) rfl (jl_aloadn rfl) ?_
                    refine jx_vr (pc' := 92) (as := []) (st := []) rfl rfl rfl rfl ⟨rfl, rfl, Nat.le_of_ble_eq_true rfl⟩ rfl rfl (c_open (dd := d) (hd := by omega) (hW := hW)  (fk := fk) (e_fk := show G 16 = fk from (e_fk)) (op0 := op0) (e_op0 := show G 15 = op0 from (e_op0))    (p_0 := by omega)) (fun o V' hq => ?_)
                    obtain ⟨G373, A374, fk2_375, op2_376, rfl, rfl, hW377, hF378, e379, e380, p381, q382⟩ := hq
                    have hF383 := Fr_tr hF0 hF378 (Fr_sub (by decide)) (Fr_sub (by decide))
                    have hP384 := Pf_f hP0 hF378 (by decide)
                    have ec385 : ecn A374 (G373 31) = ec := (ecn_f (hF378.2 15 rfl) (hF378.1 31 rfl)).trans e_ec
                    have bfk2_375 : (0 : Int) ≤ fk2_375 ∧ fk2_375 ≤ 6 := e379 ▸ hW377.1 16
                    have bop2_376 : (-2147483648 : Int) ≤ op2_376 ∧ op2_376 ≤ 2147483647 := e380 ▸ hW377.1 15
                    refine .inl ⟨rfl, ?_⟩
                    rcases q382 with a386 | ⟨a387, a388, a389⟩
                    · have _q : True := trivial
                      refine jx_ld (pc' := 93) (l' := [(0, .ref 66)]) (st' := [.ref 66]) rfl (jl_aloadn rfl) ?_
                      refine jx_ar (pc' := 94) (st' := [.int (i32 (1)), .ref 66]) rfl rfl rfl rfl ?_
                      refine jx_vr (pc' := 97) (as := [.int (i32 (1))]) (st := []) rfl rfl rfl rfl ⟨rfl, rfl, Nat.le_of_ble_eq_true rfl⟩ rfl rfl (c_need (dd := d) (hd := by omega) (hW := hW377) (g := 1) (ln := ln) (e_ln := show G373 9 = ln from ((hF378.1 9 rfl).trans (e_ln))) (le := le) (e_le := show A374 4 (ln).toNat = le from (congrFun (hF378.2 4 rfl) _).trans (e_le)) (at0 := at0) (e_at0 := show G373 10 = at0 from ((hF378.1 10 rfl).trans (e_at0))) (fk := fk2_375) (e_fk := show G373 16 = fk2_375 from (e379)) (tk0 := tk0) (e_tk0 := show G373 11 = tk0 from ((hF378.1 11 rfl).trans (e_tk0)))  (h_g := ⟨(by decide), (by decide)⟩)  (p_0 := by omega)) (fun o V' hq => ?_)
                      obtain ⟨G390, A391, at2_392, tk2_393, fk2_394, rfl, rfl, hW395, hF396, e397, e398, e399, p400, p401, q402⟩ := hq
                      have hF403 := Fr_tr hF383 hF396 (Fr_sub (by decide)) (Fr_sub (by decide))
                      have hP404 := Pf_f hP384 hF396 (by decide)
                      have ec405 : ecn A391 (G390 31) = ec := (ecn_f (hF396.2 15 rfl) (hF396.1 31 rfl)).trans ec385
                      have bat2_392 : (0 : Int) ≤ at2_392 ∧ at2_392 ≤ 3002 := e397 ▸ hW395.1 10
                      have ztk2_393 := tz_b tk2_393
                      have btk2_393 : (0 : Int) ≤ tk2_393 ∧ tk2_393 ≤ 5 := e398 ▸ hW395.1 11
                      have bfk2_394 : (0 : Int) ≤ fk2_394 ∧ fk2_394 ≤ 6 := e399 ▸ hW395.1 16
                      refine .inl ⟨rfl, ?_⟩
                      rcases q402 with ⟨a406, a407, a408, a409⟩ | ⟨a410, a411, a412, a413⟩
                      · have _q : True := trivial
                        refine jx_ld (pc' := 98) (l' := [(0, .ref 66)]) (st' := [.ref 66]) rfl (jl_aloadn rfl) ?_
                        refine jx_vr (pc' := 101) (as := []) (st := []) rfl rfl rfl rfl ⟨rfl, rfl, Nat.le_of_ble_eq_true rfl⟩ rfl rfl (hE (dd := d) (hd := by omega) (hW := hW395)  (ln := ln) (e_ln := show G390 9 = ln from ((hF396.1 9 rfl).trans ((hF378.1 9 rfl).trans (e_ln)))) (le := le) (e_le := show A391 4 (ln).toNat = le from (congrFun ((hF396.2 4 rfl).trans (hF378.2 4 rfl)) _).trans (e_le)) (at0 := at2_392) (e_at0 := show G390 10 = at2_392 from (e397)) (fk := fk2_394) (e_fk := show G390 16 = fk2_394 from (e399)) (op0 := op2_376) (e_op0 := show G390 15 = op2_376 from ((hF396.1 15 rfl).trans (e380))) (nd := nd) (e_nd := show G390 31 = nd from ((hF396.1 31 rfl).trans ((hF378.1 31 rfl).trans (e_nd)))) (tk0 := tk2_393) (e_tk0 := show G390 11 = tk2_393 from (e398)) (ec := ec) (e_ec := show ecn A391 (G390 31) = ec from ec405) (sy := sy) (e_sy := show G390 19 = sy from ((hF396.1 19 rfl).trans ((hF378.1 19 rfl).trans (e_sy)))) (i_SV := (SV_ext (((hF396.1 29 rfl).trans (hF378.1 29 rfl))) (((hF396.2 14 rfl).trans (hF378.2 14 rfl))) i_SV))   (p_0 := by omega) (p_1 := by omega) (p_2 := by omega) (p_3 := by omega) (p_4 := by omega) (p_5 := by omega)) (fun o V' hq => ?_)
                        obtain ⟨G414, A415, r416, at2_417, fk2_418, op2_419, nd2_420, tk2_421, ec2_422, rfl, rfl, hW423, hF424, hQ425, b426, e427, e428, e429, e430, e431, e432, p433, p434, p435, p436, p437, p438, q439⟩ := hq
                        have hF440 := Fr_tr hF403 hF424 (Fr_sub (by decide)) (Fr_sub (by decide))
                        have hP441 := Pf_tr hP404 hQ425 (by omega)
                        have bat2_417 : (0 : Int) ≤ at2_417 ∧ at2_417 ≤ 3002 := e427 ▸ hW423.1 10
                        have bfk2_418 : (0 : Int) ≤ fk2_418 ∧ fk2_418 ≤ 6 := e428 ▸ hW423.1 16
                        have bop2_419 : (-2147483648 : Int) ≤ op2_419 ∧ op2_419 ≤ 2147483647 := e429 ▸ hW423.1 15
                        have bnd2_420 : (0 : Int) ≤ nd2_420 ∧ nd2_420 ≤ 6999 := e430 ▸ hW423.1 31
                        have ztk2_421 := tz_b tk2_421
                        have btk2_421 : (0 : Int) ≤ tk2_421 ∧ tk2_421 ≤ 5 := e431 ▸ hW423.1 11
                        refine .inr ⟨_, rfl, ?_⟩
                        rcases q439 with ⟨a442, a443, a444, a445, a446, a447⟩ | ⟨a448, a449, a450⟩ | ⟨a451, a452, a453, a454, a455, a456, a457⟩
                        · have _q : True := trivial
                          refine jx_ld (pc' := 102) (l' := jSto1 [(0, .ref 66)] 1 (.int (i32 (r416)))) (st' := []) rfl rfl ?_
                          obtain ⟨L458, eL458⟩ : ∃ q, q = jSto1 [(0, .ref 66)] 1 (.int (i32 (r416))) := ⟨_, rfl⟩
                          rw [← eL458]
                          have gL458_0 : jGet L458 0 = some (.ref 66) := eL458 ▸ jg_ne (by decide) (rfl : jGet [(0, .ref 66)] 0 = some (.ref 66)) rfl
                          have gL458_1 : jGet L458 1 = some (.int (i32 (r416))) := eL458 ▸ jg_eq
                          refine jx_ld (pc' := 103) (l' := L458) (st' := [.ref 66]) rfl (jl_aloadn gL458_0) ?_
                          refine jx_ld (pc' := 104) (l' := L458) (st' := [.ref 66, .ref 66]) rfl (jl_aloadn gL458_0) ?_
                          refine jx_ar (pc' := 106) (st' := [.int (i32 (41)), .ref 66, .ref 66]) rfl rfl rfl rfl ?_
                          have b459 : (-2147483648 : Int) ≤ G414 13 ∧ G414 13 ≤ 2147483647 := hW423.1 13
                          refine jx_vr (pc' := 109) (as := [.int (i32 (41))]) (st := [.ref 66]) rfl rfl rfl rfl ⟨rfl, rfl, Nat.le_of_ble_eq_true rfl⟩ rfl rfl (c_is (dd := d) (hd := by omega) (hW := hW423) (k := 41) (tk := tk2_421) (e_tk := show G414 11 = tk2_421 from (e431)) (tn := G414 13) (e_tn := show G414 13 = G414 13 from rfl)  (h_k := ⟨(by decide), (by decide)⟩)  ) (fun o V' hq => ?_)
                          obtain ⟨r460, rfl, rfl, b461, q462⟩ := hq
                          refine .inr ⟨_, rfl, ?_⟩
                          rcases q462 with ⟨rfl, a463, a464, a465⟩ | rfl
                          · have _q : True := trivial
                            refine jx_vr (pc' := 112) (as := [.int (i32 (1))]) (st := []) rfl rfl rfl rfl ⟨rfl, rfl, Nat.le_of_ble_eq_true rfl⟩ rfl rfl (c_need (dd := d) (hd := by omega) (hW := hW423) (g := 1) (ln := ln) (e_ln := show G414 9 = ln from ((hF424.1 9 rfl).trans ((hF396.1 9 rfl).trans ((hF378.1 9 rfl).trans (e_ln))))) (le := le) (e_le := show A415 4 (ln).toNat = le from (congrFun ((hF424.2 4 rfl).trans ((hF396.2 4 rfl).trans (hF378.2 4 rfl))) _).trans (e_le)) (at0 := at2_417) (e_at0 := show G414 10 = at2_417 from (e427)) (fk := fk2_418) (e_fk := show G414 16 = fk2_418 from (e428)) (tk0 := tk2_421) (e_tk0 := show G414 11 = tk2_421 from (e431))  (h_g := ⟨(by decide), (by decide)⟩)  (p_0 := by omega)) (fun o V' hq => ?_)
                            obtain ⟨G466, A467, at2_468, tk2_469, fk2_470, rfl, rfl, hW471, hF472, e473, e474, e475, p476, p477, q478⟩ := hq
                            have hF479 := Fr_tr hF440 hF472 (Fr_sub (by decide)) (Fr_sub (by decide))
                            have hP480 := Pf_f hP441 hF472 (by decide)
                            have ec481 : ecn A467 (G466 31) = ec2_422 := (ecn_f (hF472.2 15 rfl) (hF472.1 31 rfl)).trans e432
                            have bat2_468 : (0 : Int) ≤ at2_468 ∧ at2_468 ≤ 3002 := e473 ▸ hW471.1 10
                            have ztk2_469 := tz_b tk2_469
                            have btk2_469 : (0 : Int) ≤ tk2_469 ∧ tk2_469 ≤ 5 := e474 ▸ hW471.1 11
                            have bfk2_470 : (0 : Int) ≤ fk2_470 ∧ fk2_470 ≤ 6 := e475 ▸ hW471.1 16
                            refine .inl ⟨rfl, ?_⟩
                            rcases q478 with ⟨a482, a483, a484, a485⟩ | ⟨a486, a487, a488, a489⟩
                            · have _q : True := trivial
                              refine jx_ld (pc' := 113) (l' := L458) (st' := [.ref 66]) rfl (jl_aloadn gL458_0) ?_
                              refine jx_ar (pc' := 114) (st' := [.ref 66, .ref 66]) rfl rfl rfl rfl ?_
                              refine jr_get (pc' := 117) (i := 15) (v := .int (i32 (op2_419))) rfl rfl (by decide) (rFv_eq (by decide) (show G466 15 = op2_419 from ((hF472.1 15 rfl).trans (e429)))) rfl ?_
                              refine jx_ar (pc' := 118) (st' := [.int (i32 (1)), .int (i32 (op2_419)), .ref 66]) rfl rfl rfl rfl ?_
                              refine jx_sub (pc' := 119) rfl rfl ?_
                              refine jr_put (pc' := 122) (i := 15) (z := (op2_419 - 1)) rfl rfl (by decide) rfl rfl rfl rfl rfl rfl ?_
                              have hW490 : Wk (uG G466 15 ((op2_419 - 1))) A467 := Wk_g hW471 (show (-2147483648 : Int) ≤ (op2_419 - 1) by omega) (show (op2_419 - 1) ≤ (2147483647 : Int) by omega)
                              have hF491 := Fr_g (z := (op2_419 - 1)) (i := 15) hF479 (by decide)
                              have ec492 : ecn A467 ((uG G466 15 ((op2_419 - 1))) 31) = ec2_422 := ec481
                              refine jx_ld (pc' := 123) (l' := L458) (st' := [.ref 66]) rfl (jl_aloadn gL458_0) ?_
                              refine jx_ar (pc' := 125) (st' := [.int (i32 (7)), .ref 66]) rfl rfl rfl rfl ?_
                              refine jx_ld (pc' := 126) (l' := L458) (st' := [.int (i32 (r416)), .int (i32 (7)), .ref 66]) rfl (jl_iloadn gL458_1) ?_
                              refine jx_ar (pc' := 127) (st' := [.int (i32 (0)), .int (i32 (r416)), .int (i32 (7)), .ref 66]) rfl rfl rfl rfl ?_
                              refine jx_ar (pc' := 128) (st' := [.int (i32 (0)), .int (i32 (0)), .int (i32 (r416)), .int (i32 (7)), .ref 66]) rfl rfl rfl rfl ?_
                              refine jx_ar (pc' := 129) (st' := [.int (i32 (0)), .int (i32 (0)), .int (i32 (0)), .int (i32 (r416)), .int (i32 (7)), .ref 66]) rfl rfl rfl rfl ?_
                              refine jx_vr (pc' := 132) (as := [.int (i32 (7)), .int (i32 (r416)), .int (i32 (0)), .int (i32 (0)), .int (i32 (0))]) (st := []) rfl rfl rfl rfl ⟨rfl, rfl, Nat.le_of_ble_eq_true rfl⟩ rfl rfl (c_node_o (dd := d) (hd := by omega) (hW := hW490) (kind := 7) (a := r416) (b := 0) (c := 0) (e := 0) (nd := nd2_420) (e_nd := show (uG G466 15 ((op2_419 - 1))) 31 = nd2_420 from ((hF472.1 31 rfl).trans (e430))) (ec := ec2_422) (e_ec := show ecn A467 ((uG G466 15 ((op2_419 - 1))) 31) = ec2_422 from ec492) (sy := sy) (e_sy := show (uG G466 15 ((op2_419 - 1))) 19 = sy from ((hF472.1 19 rfl).trans ((hF424.1 19 rfl).trans ((hF396.1 19 rfl).trans ((hF378.1 19 rfl).trans (e_sy))))))  (h_kind := ⟨(by decide), (by decide)⟩) (h_a := ⟨(Int.le_trans (by decide : (-2147483648 : Int) ≤ -2147483648) b426.1), (Int.le_trans b426.2 (by decide : (2147483647 : Int) ≤ 2147483647))⟩) (h_b := ⟨(by decide), (by decide)⟩) (h_c := ⟨(by decide), (by decide)⟩) (h_e := ⟨(by decide), (by decide)⟩)  (p_0 := by omega) (p_1 := by omega) (p_2 := by omega)) (fun o V' hq => ?_)
                              obtain ⟨G493, A494, nd2_495, ec2_496, rfl, rfl, hW497, hF498, hQ499, e500, e501, p502, p503, p504, p505, -⟩ := hq
                              have hF507 := Fr_tr hF491 hF498 (Fr_sub (by decide)) (Fr_sub (by decide))
                              have hP508 := Pf_tr hP480 hQ499 (by omega)
                              have bnd2_495 : (0 : Int) ≤ nd2_495 ∧ nd2_495 ≤ 6999 := e500 ▸ hW497.1 31
                              refine .inr ⟨_, rfl, ?_⟩
                              refine jx_rt (v := some (.int (i32 (nd2_420)))) rfl rfl rfl rfl rfl rfl ?_
                              have z509 := tz_f (tk2_469)
                              exact ⟨_, _, _, at2_468, fk2_470, (op2_419 - 1), nd2_495, tk2_469, ec2_496, rfl, rfl, hW497, hF507, hP508, by omega, ((hF498.1 10 rfl).trans (e473)), ((hF498.1 16 rfl).trans (e475)), (hF498.1 15 rfl), (e500), ((hF498.1 11 rfl).trans (e474)), e501, by omega, by omega, by omega, by omega, by omega, by omega, by first | exact Or.inr (Or.inl (⟨by omega, by omega, by omega⟩))⟩
                            · have _q : True := trivial
                              exfalso
                              omega
                          · have _q : True := trivial
                            refine jx_vr (pc' := 112) (as := [.int (i32 (0))]) (st := []) rfl rfl rfl rfl ⟨rfl, rfl, Nat.le_of_ble_eq_true rfl⟩ rfl rfl (c_need (dd := d) (hd := by omega) (hW := hW423) (g := 0) (ln := ln) (e_ln := show G414 9 = ln from ((hF424.1 9 rfl).trans ((hF396.1 9 rfl).trans ((hF378.1 9 rfl).trans (e_ln))))) (le := le) (e_le := show A415 4 (ln).toNat = le from (congrFun ((hF424.2 4 rfl).trans ((hF396.2 4 rfl).trans (hF378.2 4 rfl))) _).trans (e_le)) (at0 := at2_417) (e_at0 := show G414 10 = at2_417 from (e427)) (fk := fk2_418) (e_fk := show G414 16 = fk2_418 from (e428)) (tk0 := tk2_421) (e_tk0 := show G414 11 = tk2_421 from (e431))  (h_g := ⟨(by decide), (by decide)⟩)  (p_0 := by omega)) (fun o V' hq => ?_)
                            obtain ⟨G510, A511, at2_512, tk2_513, fk2_514, rfl, rfl, hW515, hF516, e517, e518, e519, p520, p521, q522⟩ := hq
                            have hF523 := Fr_tr hF440 hF516 (Fr_sub (by decide)) (Fr_sub (by decide))
                            have hP524 := Pf_f hP441 hF516 (by decide)
                            have ec525 : ecn A511 (G510 31) = ec2_422 := (ecn_f (hF516.2 15 rfl) (hF516.1 31 rfl)).trans e432
                            have bat2_512 : (0 : Int) ≤ at2_512 ∧ at2_512 ≤ 3002 := e517 ▸ hW515.1 10
                            have ztk2_513 := tz_b tk2_513
                            have btk2_513 : (0 : Int) ≤ tk2_513 ∧ tk2_513 ≤ 5 := e518 ▸ hW515.1 11
                            have bfk2_514 : (0 : Int) ≤ fk2_514 ∧ fk2_514 ≤ 6 := e519 ▸ hW515.1 16
                            refine .inl ⟨rfl, ?_⟩
                            rcases q522 with ⟨a526, a527, a528, a529⟩ | ⟨a530, a531, a532, a533⟩
                            · have _q : True := trivial
                              refine jx_ld (pc' := 113) (l' := L458) (st' := [.ref 66]) rfl (jl_aloadn gL458_0) ?_
                              refine jx_ar (pc' := 114) (st' := [.ref 66, .ref 66]) rfl rfl rfl rfl ?_
                              refine jr_get (pc' := 117) (i := 15) (v := .int (i32 (op2_419))) rfl rfl (by decide) (rFv_eq (by decide) (show G510 15 = op2_419 from ((hF516.1 15 rfl).trans (e429)))) rfl ?_
                              refine jx_ar (pc' := 118) (st' := [.int (i32 (1)), .int (i32 (op2_419)), .ref 66]) rfl rfl rfl rfl ?_
                              refine jx_sub (pc' := 119) rfl rfl ?_
                              refine jr_put (pc' := 122) (i := 15) (z := (op2_419 - 1)) rfl rfl (by decide) rfl rfl rfl rfl rfl rfl ?_
                              have hW534 : Wk (uG G510 15 ((op2_419 - 1))) A511 := Wk_g hW515 (show (-2147483648 : Int) ≤ (op2_419 - 1) by omega) (show (op2_419 - 1) ≤ (2147483647 : Int) by omega)
                              have hF535 := Fr_g (z := (op2_419 - 1)) (i := 15) hF523 (by decide)
                              have ec536 : ecn A511 ((uG G510 15 ((op2_419 - 1))) 31) = ec2_422 := ec525
                              refine jx_ld (pc' := 123) (l' := L458) (st' := [.ref 66]) rfl (jl_aloadn gL458_0) ?_
                              refine jx_ar (pc' := 125) (st' := [.int (i32 (7)), .ref 66]) rfl rfl rfl rfl ?_
                              refine jx_ld (pc' := 126) (l' := L458) (st' := [.int (i32 (r416)), .int (i32 (7)), .ref 66]) rfl (jl_iloadn gL458_1) ?_
                              refine jx_ar (pc' := 127) (st' := [.int (i32 (0)), .int (i32 (r416)), .int (i32 (7)), .ref 66]) rfl rfl rfl rfl ?_
                              refine jx_ar (pc' := 128) (st' := [.int (i32 (0)), .int (i32 (0)), .int (i32 (r416)), .int (i32 (7)), .ref 66]) rfl rfl rfl rfl ?_
                              refine jx_ar (pc' := 129) (st' := [.int (i32 (0)), .int (i32 (0)), .int (i32 (0)), .int (i32 (r416)), .int (i32 (7)), .ref 66]) rfl rfl rfl rfl ?_
                              refine jx_vr (pc' := 132) (as := [.int (i32 (7)), .int (i32 (r416)), .int (i32 (0)), .int (i32 (0)), .int (i32 (0))]) (st := []) rfl rfl rfl rfl ⟨rfl, rfl, Nat.le_of_ble_eq_true rfl⟩ rfl rfl (c_node_o (dd := d) (hd := by omega) (hW := hW534) (kind := 7) (a := r416) (b := 0) (c := 0) (e := 0) (nd := nd2_420) (e_nd := show (uG G510 15 ((op2_419 - 1))) 31 = nd2_420 from ((hF516.1 31 rfl).trans (e430))) (ec := ec2_422) (e_ec := show ecn A511 ((uG G510 15 ((op2_419 - 1))) 31) = ec2_422 from ec536) (sy := sy) (e_sy := show (uG G510 15 ((op2_419 - 1))) 19 = sy from ((hF516.1 19 rfl).trans ((hF424.1 19 rfl).trans ((hF396.1 19 rfl).trans ((hF378.1 19 rfl).trans (e_sy))))))  (h_kind := ⟨(by decide), (by decide)⟩) (h_a := ⟨(Int.le_trans (by decide : (-2147483648 : Int) ≤ -2147483648) b426.1), (Int.le_trans b426.2 (by decide : (2147483647 : Int) ≤ 2147483647))⟩) (h_b := ⟨(by decide), (by decide)⟩) (h_c := ⟨(by decide), (by decide)⟩) (h_e := ⟨(by decide), (by decide)⟩)  (p_0 := by omega) (p_1 := by omega) (p_2 := by omega)) (fun o V' hq => ?_)
                              obtain ⟨G537, A538, nd2_539, ec2_540, rfl, rfl, hW541, hF542, hQ543, e544, e545, p546, p547, p548, p549, -⟩ := hq
                              have hF551 := Fr_tr hF535 hF542 (Fr_sub (by decide)) (Fr_sub (by decide))
                              have hP552 := Pf_tr hP524 hQ543 (by omega)
                              have bnd2_539 : (0 : Int) ≤ nd2_539 ∧ nd2_539 ≤ 6999 := e544 ▸ hW541.1 31
                              refine .inr ⟨_, rfl, ?_⟩
                              refine jx_rt (v := some (.int (i32 (nd2_420)))) rfl rfl rfl rfl rfl rfl ?_
                              have z553 := tz_f (tk2_513)
                              exact ⟨_, _, _, at2_512, fk2_514, (op2_419 - 1), nd2_539, tk2_513, ec2_540, rfl, rfl, hW541, hF551, hP552, by omega, ((hF542.1 10 rfl).trans (e517)), ((hF542.1 16 rfl).trans (e519)), (hF542.1 15 rfl), (e544), ((hF542.1 11 rfl).trans (e518)), e545, by omega, by omega, by omega, by omega, by omega, by omega, by first | exact Or.inr (Or.inl (⟨by omega, by omega, by omega⟩))⟩
                            · have _q : True := trivial
                              exfalso
                              omega
                        · have _q : True := trivial
                          exfalso
                          omega
                        · have _q : True := trivial
                          exfalso
                          omega
                      · have _q : True := trivial
                        exfalso
                        omega
                    · have _q : True := trivial
                      refine jx_ld (pc' := 93) (l' := [(0, .ref 66)]) (st' := [.ref 66]) rfl (jl_aloadn rfl) ?_
                      refine jx_ar (pc' := 94) (st' := [.int (i32 (1)), .ref 66]) rfl rfl rfl rfl ?_
                      refine jx_vr (pc' := 97) (as := [.int (i32 (1))]) (st := []) rfl rfl rfl rfl ⟨rfl, rfl, Nat.le_of_ble_eq_true rfl⟩ rfl rfl (c_need (dd := d) (hd := by omega) (hW := hW377) (g := 1) (ln := ln) (e_ln := show G373 9 = ln from ((hF378.1 9 rfl).trans (e_ln))) (le := le) (e_le := show A374 4 (ln).toNat = le from (congrFun (hF378.2 4 rfl) _).trans (e_le)) (at0 := at0) (e_at0 := show G373 10 = at0 from ((hF378.1 10 rfl).trans (e_at0))) (fk := fk2_375) (e_fk := show G373 16 = fk2_375 from (e379)) (tk0 := tk0) (e_tk0 := show G373 11 = tk0 from ((hF378.1 11 rfl).trans (e_tk0)))  (h_g := ⟨(by decide), (by decide)⟩)  (p_0 := by omega)) (fun o V' hq => ?_)
                      obtain ⟨G554, A555, at2_556, tk2_557, fk2_558, rfl, rfl, hW559, hF560, e561, e562, e563, p564, p565, q566⟩ := hq
                      have hF567 := Fr_tr hF383 hF560 (Fr_sub (by decide)) (Fr_sub (by decide))
                      have hP568 := Pf_f hP384 hF560 (by decide)
                      have ec569 : ecn A555 (G554 31) = ec := (ecn_f (hF560.2 15 rfl) (hF560.1 31 rfl)).trans ec385
                      have bat2_556 : (0 : Int) ≤ at2_556 ∧ at2_556 ≤ 3002 := e561 ▸ hW559.1 10
                      have ztk2_557 := tz_b tk2_557
                      have btk2_557 : (0 : Int) ≤ tk2_557 ∧ tk2_557 ≤ 5 := e562 ▸ hW559.1 11
                      have bfk2_558 : (0 : Int) ≤ fk2_558 ∧ fk2_558 ≤ 6 := e563 ▸ hW559.1 16
                      refine .inl ⟨rfl, ?_⟩
                      rcases q566 with ⟨a570, a571, a572, a573⟩ | ⟨a574, a575, a576, a577⟩
                      · have _q : True := trivial
                        refine jx_ld (pc' := 98) (l' := [(0, .ref 66)]) (st' := [.ref 66]) rfl (jl_aloadn rfl) ?_
                        refine jx_vr (pc' := 101) (as := []) (st := []) rfl rfl rfl rfl ⟨rfl, rfl, Nat.le_of_ble_eq_true rfl⟩ rfl rfl (hE (dd := d) (hd := by omega) (hW := hW559)  (ln := ln) (e_ln := show G554 9 = ln from ((hF560.1 9 rfl).trans ((hF378.1 9 rfl).trans (e_ln)))) (le := le) (e_le := show A555 4 (ln).toNat = le from (congrFun ((hF560.2 4 rfl).trans (hF378.2 4 rfl)) _).trans (e_le)) (at0 := at2_556) (e_at0 := show G554 10 = at2_556 from (e561)) (fk := fk2_558) (e_fk := show G554 16 = fk2_558 from (e563)) (op0 := op2_376) (e_op0 := show G554 15 = op2_376 from ((hF560.1 15 rfl).trans (e380))) (nd := nd) (e_nd := show G554 31 = nd from ((hF560.1 31 rfl).trans ((hF378.1 31 rfl).trans (e_nd)))) (tk0 := tk2_557) (e_tk0 := show G554 11 = tk2_557 from (e562)) (ec := ec) (e_ec := show ecn A555 (G554 31) = ec from ec569) (sy := sy) (e_sy := show G554 19 = sy from ((hF560.1 19 rfl).trans ((hF378.1 19 rfl).trans (e_sy)))) (i_SV := (SV_ext (((hF560.1 29 rfl).trans (hF378.1 29 rfl))) (((hF560.2 14 rfl).trans (hF378.2 14 rfl))) i_SV))   (p_0 := by omega) (p_1 := by omega) (p_2 := by omega) (p_3 := by omega) (p_4 := by omega) (p_5 := by omega)) (fun o V' hq => ?_)
                        obtain ⟨G578, A579, r580, at2_581, fk2_582, op2_583, nd2_584, tk2_585, ec2_586, rfl, rfl, hW587, hF588, hQ589, b590, e591, e592, e593, e594, e595, e596, p597, p598, p599, p600, p601, p602, q603⟩ := hq
                        have hF604 := Fr_tr hF567 hF588 (Fr_sub (by decide)) (Fr_sub (by decide))
                        have hP605 := Pf_tr hP568 hQ589 (by omega)
                        have bat2_581 : (0 : Int) ≤ at2_581 ∧ at2_581 ≤ 3002 := e591 ▸ hW587.1 10
                        have bfk2_582 : (0 : Int) ≤ fk2_582 ∧ fk2_582 ≤ 6 := e592 ▸ hW587.1 16
                        have bop2_583 : (-2147483648 : Int) ≤ op2_583 ∧ op2_583 ≤ 2147483647 := e593 ▸ hW587.1 15
                        have bnd2_584 : (0 : Int) ≤ nd2_584 ∧ nd2_584 ≤ 6999 := e594 ▸ hW587.1 31
                        have ztk2_585 := tz_b tk2_585
                        have btk2_585 : (0 : Int) ≤ tk2_585 ∧ tk2_585 ≤ 5 := e595 ▸ hW587.1 11
                        refine .inr ⟨_, rfl, ?_⟩
                        rcases q603 with ⟨a606, a607, a608, a609, a610, a611⟩ | ⟨a612, a613, a614⟩ | ⟨a615, a616, a617, a618, a619, a620, a621⟩
                        · have _q : True := trivial
                          refine jx_ld (pc' := 102) (l' := jSto1 [(0, .ref 66)] 1 (.int (i32 (r580)))) (st' := []) rfl rfl ?_
                          obtain ⟨L622, eL622⟩ : ∃ q, q = jSto1 [(0, .ref 66)] 1 (.int (i32 (r580))) := ⟨_, rfl⟩
                          rw [← eL622]
                          have gL622_0 : jGet L622 0 = some (.ref 66) := eL622 ▸ jg_ne (by decide) (rfl : jGet [(0, .ref 66)] 0 = some (.ref 66)) rfl
                          have gL622_1 : jGet L622 1 = some (.int (i32 (r580))) := eL622 ▸ jg_eq
                          refine jx_ld (pc' := 103) (l' := L622) (st' := [.ref 66]) rfl (jl_aloadn gL622_0) ?_
                          refine jx_ld (pc' := 104) (l' := L622) (st' := [.ref 66, .ref 66]) rfl (jl_aloadn gL622_0) ?_
                          refine jx_ar (pc' := 106) (st' := [.int (i32 (41)), .ref 66, .ref 66]) rfl rfl rfl rfl ?_
                          have b623 : (-2147483648 : Int) ≤ G578 13 ∧ G578 13 ≤ 2147483647 := hW587.1 13
                          refine jx_vr (pc' := 109) (as := [.int (i32 (41))]) (st := [.ref 66]) rfl rfl rfl rfl ⟨rfl, rfl, Nat.le_of_ble_eq_true rfl⟩ rfl rfl (c_is (dd := d) (hd := by omega) (hW := hW587) (k := 41) (tk := tk2_585) (e_tk := show G578 11 = tk2_585 from (e595)) (tn := G578 13) (e_tn := show G578 13 = G578 13 from rfl)  (h_k := ⟨(by decide), (by decide)⟩)  ) (fun o V' hq => ?_)
                          obtain ⟨r624, rfl, rfl, b625, q626⟩ := hq
                          refine .inr ⟨_, rfl, ?_⟩
                          rcases q626 with ⟨rfl, a627, a628, a629⟩ | rfl
                          · have _q : True := trivial
                            refine jx_vr (pc' := 112) (as := [.int (i32 (1))]) (st := []) rfl rfl rfl rfl ⟨rfl, rfl, Nat.le_of_ble_eq_true rfl⟩ rfl rfl (c_need (dd := d) (hd := by omega) (hW := hW587) (g := 1) (ln := ln) (e_ln := show G578 9 = ln from ((hF588.1 9 rfl).trans ((hF560.1 9 rfl).trans ((hF378.1 9 rfl).trans (e_ln))))) (le := le) (e_le := show A579 4 (ln).toNat = le from (congrFun ((hF588.2 4 rfl).trans ((hF560.2 4 rfl).trans (hF378.2 4 rfl))) _).trans (e_le)) (at0 := at2_581) (e_at0 := show G578 10 = at2_581 from (e591)) (fk := fk2_582) (e_fk := show G578 16 = fk2_582 from (e592)) (tk0 := tk2_585) (e_tk0 := show G578 11 = tk2_585 from (e595))  (h_g := ⟨(by decide), (by decide)⟩)  (p_0 := by omega)) (fun o V' hq => ?_)
                            obtain ⟨G630, A631, at2_632, tk2_633, fk2_634, rfl, rfl, hW635, hF636, e637, e638, e639, p640, p641, q642⟩ := hq
                            have hF643 := Fr_tr hF604 hF636 (Fr_sub (by decide)) (Fr_sub (by decide))
                            have hP644 := Pf_f hP605 hF636 (by decide)
                            have ec645 : ecn A631 (G630 31) = ec2_586 := (ecn_f (hF636.2 15 rfl) (hF636.1 31 rfl)).trans e596
                            have bat2_632 : (0 : Int) ≤ at2_632 ∧ at2_632 ≤ 3002 := e637 ▸ hW635.1 10
                            have ztk2_633 := tz_b tk2_633
                            have btk2_633 : (0 : Int) ≤ tk2_633 ∧ tk2_633 ≤ 5 := e638 ▸ hW635.1 11
                            have bfk2_634 : (0 : Int) ≤ fk2_634 ∧ fk2_634 ≤ 6 := e639 ▸ hW635.1 16
                            refine .inl ⟨rfl, ?_⟩
                            rcases q642 with ⟨a646, a647, a648, a649⟩ | ⟨a650, a651, a652, a653⟩
                            · have _q : True := trivial
                              refine jx_ld (pc' := 113) (l' := L622) (st' := [.ref 66]) rfl (jl_aloadn gL622_0) ?_
                              refine jx_ar (pc' := 114) (st' := [.ref 66, .ref 66]) rfl rfl rfl rfl ?_
                              refine jr_get (pc' := 117) (i := 15) (v := .int (i32 (op2_583))) rfl rfl (by decide) (rFv_eq (by decide) (show G630 15 = op2_583 from ((hF636.1 15 rfl).trans (e593)))) rfl ?_
                              refine jx_ar (pc' := 118) (st' := [.int (i32 (1)), .int (i32 (op2_583)), .ref 66]) rfl rfl rfl rfl ?_
                              refine jx_sub (pc' := 119) rfl rfl ?_
                              refine jr_put (pc' := 122) (i := 15) (z := (op2_583 - 1)) rfl rfl (by decide) rfl rfl rfl rfl rfl rfl ?_
                              have hW654 : Wk (uG G630 15 ((op2_583 - 1))) A631 := Wk_g hW635 (show (-2147483648 : Int) ≤ (op2_583 - 1) by omega) (show (op2_583 - 1) ≤ (2147483647 : Int) by omega)
                              have hF655 := Fr_g (z := (op2_583 - 1)) (i := 15) hF643 (by decide)
                              have ec656 : ecn A631 ((uG G630 15 ((op2_583 - 1))) 31) = ec2_586 := ec645
                              refine jx_ld (pc' := 123) (l' := L622) (st' := [.ref 66]) rfl (jl_aloadn gL622_0) ?_
                              refine jx_ar (pc' := 125) (st' := [.int (i32 (7)), .ref 66]) rfl rfl rfl rfl ?_
                              refine jx_ld (pc' := 126) (l' := L622) (st' := [.int (i32 (r580)), .int (i32 (7)), .ref 66]) rfl (jl_iloadn gL622_1) ?_
                              refine jx_ar (pc' := 127) (st' := [.int (i32 (0)), .int (i32 (r580)), .int (i32 (7)), .ref 66]) rfl rfl rfl rfl ?_
                              refine jx_ar (pc' := 128) (st' := [.int (i32 (0)), .int (i32 (0)), .int (i32 (r580)), .int (i32 (7)), .ref 66]) rfl rfl rfl rfl ?_
                              refine jx_ar (pc' := 129) (st' := [.int (i32 (0)), .int (i32 (0)), .int (i32 (0)), .int (i32 (r580)), .int (i32 (7)), .ref 66]) rfl rfl rfl rfl ?_
                              refine jx_vr (pc' := 132) (as := [.int (i32 (7)), .int (i32 (r580)), .int (i32 (0)), .int (i32 (0)), .int (i32 (0))]) (st := []) rfl rfl rfl rfl ⟨rfl, rfl, Nat.le_of_ble_eq_true rfl⟩ rfl rfl (c_node_o (dd := d) (hd := by omega) (hW := hW654) (kind := 7) (a := r580) (b := 0) (c := 0) (e := 0) (nd := nd2_584) (e_nd := show (uG G630 15 ((op2_583 - 1))) 31 = nd2_584 from ((hF636.1 31 rfl).trans (e594))) (ec := ec2_586) (e_ec := show ecn A631 ((uG G630 15 ((op2_583 - 1))) 31) = ec2_586 from ec656) (sy := sy) (e_sy := show (uG G630 15 ((op2_583 - 1))) 19 = sy from ((hF636.1 19 rfl).trans ((hF588.1 19 rfl).trans ((hF560.1 19 rfl).trans ((hF378.1 19 rfl).trans (e_sy))))))  (h_kind := ⟨(by decide), (by decide)⟩) (h_a := ⟨(Int.le_trans (by decide : (-2147483648 : Int) ≤ -2147483648) b590.1), (Int.le_trans b590.2 (by decide : (2147483647 : Int) ≤ 2147483647))⟩) (h_b := ⟨(by decide), (by decide)⟩) (h_c := ⟨(by decide), (by decide)⟩) (h_e := ⟨(by decide), (by decide)⟩)  (p_0 := by omega) (p_1 := by omega) (p_2 := by omega)) (fun o V' hq => ?_)
                              obtain ⟨G657, A658, nd2_659, ec2_660, rfl, rfl, hW661, hF662, hQ663, e664, e665, p666, p667, p668, p669, -⟩ := hq
                              have hF671 := Fr_tr hF655 hF662 (Fr_sub (by decide)) (Fr_sub (by decide))
                              have hP672 := Pf_tr hP644 hQ663 (by omega)
                              have bnd2_659 : (0 : Int) ≤ nd2_659 ∧ nd2_659 ≤ 6999 := e664 ▸ hW661.1 31
                              refine .inr ⟨_, rfl, ?_⟩
                              refine jx_rt (v := some (.int (i32 (nd2_584)))) rfl rfl rfl rfl rfl rfl ?_
                              have z673 := tz_f (tk2_633)
                              exact ⟨_, _, _, at2_632, fk2_634, (op2_583 - 1), nd2_659, tk2_633, ec2_660, rfl, rfl, hW661, hF671, hP672, by omega, ((hF662.1 10 rfl).trans (e637)), ((hF662.1 16 rfl).trans (e639)), (hF662.1 15 rfl), (e664), ((hF662.1 11 rfl).trans (e638)), e665, by omega, by omega, by omega, by omega, by omega, by omega, by first | exact Or.inr (Or.inl (⟨by omega, by omega, by omega⟩))⟩
                            · have _q : True := trivial
                              exfalso
                              omega
                          · have _q : True := trivial
                            refine jx_vr (pc' := 112) (as := [.int (i32 (0))]) (st := []) rfl rfl rfl rfl ⟨rfl, rfl, Nat.le_of_ble_eq_true rfl⟩ rfl rfl (c_need (dd := d) (hd := by omega) (hW := hW587) (g := 0) (ln := ln) (e_ln := show G578 9 = ln from ((hF588.1 9 rfl).trans ((hF560.1 9 rfl).trans ((hF378.1 9 rfl).trans (e_ln))))) (le := le) (e_le := show A579 4 (ln).toNat = le from (congrFun ((hF588.2 4 rfl).trans ((hF560.2 4 rfl).trans (hF378.2 4 rfl))) _).trans (e_le)) (at0 := at2_581) (e_at0 := show G578 10 = at2_581 from (e591)) (fk := fk2_582) (e_fk := show G578 16 = fk2_582 from (e592)) (tk0 := tk2_585) (e_tk0 := show G578 11 = tk2_585 from (e595))  (h_g := ⟨(by decide), (by decide)⟩)  (p_0 := by omega)) (fun o V' hq => ?_)
                            obtain ⟨G674, A675, at2_676, tk2_677, fk2_678, rfl, rfl, hW679, hF680, e681, e682, e683, p684, p685, q686⟩ := hq
                            have hF687 := Fr_tr hF604 hF680 (Fr_sub (by decide)) (Fr_sub (by decide))
                            have hP688 := Pf_f hP605 hF680 (by decide)
                            have ec689 : ecn A675 (G674 31) = ec2_586 := (ecn_f (hF680.2 15 rfl) (hF680.1 31 rfl)).trans e596
                            have bat2_676 : (0 : Int) ≤ at2_676 ∧ at2_676 ≤ 3002 := e681 ▸ hW679.1 10
                            have ztk2_677 := tz_b tk2_677
                            have btk2_677 : (0 : Int) ≤ tk2_677 ∧ tk2_677 ≤ 5 := e682 ▸ hW679.1 11
                            have bfk2_678 : (0 : Int) ≤ fk2_678 ∧ fk2_678 ≤ 6 := e683 ▸ hW679.1 16
                            refine .inl ⟨rfl, ?_⟩
                            rcases q686 with ⟨a690, a691, a692, a693⟩ | ⟨a694, a695, a696, a697⟩
                            · have _q : True := trivial
                              refine jx_ld (pc' := 113) (l' := L622) (st' := [.ref 66]) rfl (jl_aloadn gL622_0) ?_
                              refine jx_ar (pc' := 114) (st' := [.ref 66, .ref 66]) rfl rfl rfl rfl ?_
                              refine jr_get (pc' := 117) (i := 15) (v := .int (i32 (op2_583))) rfl rfl (by decide) (rFv_eq (by decide) (show G674 15 = op2_583 from ((hF680.1 15 rfl).trans (e593)))) rfl ?_
                              refine jx_ar (pc' := 118) (st' := [.int (i32 (1)), .int (i32 (op2_583)), .ref 66]) rfl rfl rfl rfl ?_
                              refine jx_sub (pc' := 119) rfl rfl ?_
                              refine jr_put (pc' := 122) (i := 15) (z := (op2_583 - 1)) rfl rfl (by decide) rfl rfl rfl rfl rfl rfl ?_
                              have hW698 : Wk (uG G674 15 ((op2_583 - 1))) A675 := Wk_g hW679 (show (-2147483648 : Int) ≤ (op2_583 - 1) by omega) (show (op2_583 - 1) ≤ (2147483647 : Int) by omega)
                              have hF699 := Fr_g (z := (op2_583 - 1)) (i := 15) hF687 (by decide)
                              have ec700 : ecn A675 ((uG G674 15 ((op2_583 - 1))) 31) = ec2_586 := ec689
                              refine jx_ld (pc' := 123) (l' := L622) (st' := [.ref 66]) rfl (jl_aloadn gL622_0) ?_
                              refine jx_ar (pc' := 125) (st' := [.int (i32 (7)), .ref 66]) rfl rfl rfl rfl ?_
                              refine jx_ld (pc' := 126) (l' := L622) (st' := [.int (i32 (r580)), .int (i32 (7)), .ref 66]) rfl (jl_iloadn gL622_1) ?_
                              refine jx_ar (pc' := 127) (st' := [.int (i32 (0)), .int (i32 (r580)), .int (i32 (7)), .ref 66]) rfl rfl rfl rfl ?_
                              refine jx_ar (pc' := 128) (st' := [.int (i32 (0)), .int (i32 (0)), .int (i32 (r580)), .int (i32 (7)), .ref 66]) rfl rfl rfl rfl ?_
                              refine jx_ar (pc' := 129) (st' := [.int (i32 (0)), .int (i32 (0)), .int (i32 (0)), .int (i32 (r580)), .int (i32 (7)), .ref 66]) rfl rfl rfl rfl ?_
                              refine jx_vr (pc' := 132) (as := [.int (i32 (7)), .int (i32 (r580)), .int (i32 (0)), .int (i32 (0)), .int (i32 (0))]) (st := []) rfl rfl rfl rfl ⟨rfl, rfl, Nat.le_of_ble_eq_true rfl⟩ rfl rfl (c_node_o (dd := d) (hd := by omega) (hW := hW698) (kind := 7) (a := r580) (b := 0) (c := 0) (e := 0) (nd := nd2_584) (e_nd := show (uG G674 15 ((op2_583 - 1))) 31 = nd2_584 from ((hF680.1 31 rfl).trans (e594))) (ec := ec2_586) (e_ec := show ecn A675 ((uG G674 15 ((op2_583 - 1))) 31) = ec2_586 from ec700) (sy := sy) (e_sy := show (uG G674 15 ((op2_583 - 1))) 19 = sy from ((hF680.1 19 rfl).trans ((hF588.1 19 rfl).trans ((hF560.1 19 rfl).trans ((hF378.1 19 rfl).trans (e_sy))))))  (h_kind := ⟨(by decide), (by decide)⟩) (h_a := ⟨(Int.le_trans (by decide : (-2147483648 : Int) ≤ -2147483648) b590.1), (Int.le_trans b590.2 (by decide : (2147483647 : Int) ≤ 2147483647))⟩) (h_b := ⟨(by decide), (by decide)⟩) (h_c := ⟨(by decide), (by decide)⟩) (h_e := ⟨(by decide), (by decide)⟩)  (p_0 := by omega) (p_1 := by omega) (p_2 := by omega)) (fun o V' hq => ?_)
                              obtain ⟨G701, A702, nd2_703, ec2_704, rfl, rfl, hW705, hF706, hQ707, e708, e709, p710, p711, p712, p713, -⟩ := hq
                              have hF715 := Fr_tr hF699 hF706 (Fr_sub (by decide)) (Fr_sub (by decide))
                              have hP716 := Pf_tr hP688 hQ707 (by omega)
                              have bnd2_703 : (0 : Int) ≤ nd2_703 ∧ nd2_703 ≤ 6999 := e708 ▸ hW705.1 31
                              refine .inr ⟨_, rfl, ?_⟩
                              refine jx_rt (v := some (.int (i32 (nd2_584)))) rfl rfl rfl rfl rfl rfl ?_
                              have z717 := tz_f (tk2_677)
                              exact ⟨_, _, _, at2_676, fk2_678, (op2_583 - 1), nd2_703, tk2_677, ec2_704, rfl, rfl, hW705, hF715, hP716, by omega, ((hF706.1 10 rfl).trans (e681)), ((hF706.1 16 rfl).trans (e683)), (hF706.1 15 rfl), (e708), ((hF706.1 11 rfl).trans (e682)), e709, by omega, by omega, by omega, by omega, by omega, by omega, by first | exact Or.inr (Or.inl (⟨by omega, by omega, by omega⟩))⟩
                            · have _q : True := trivial
                              exfalso
                              omega
                        · have _q : True := trivial
                          exfalso
                          omega
                        · have _q : True := trivial
                          exfalso
                          omega
                      · have _q : True := trivial
                        have pz718 : at0 + tz tk2_557 ≤ at2_556 := by omega
                        refine jx_ld (pc' := 98) (l' := [(0, .ref 66)]) (st' := [.ref 66]) rfl (jl_aloadn rfl) ?_
                        refine jx_vr (pc' := 101) (as := []) (st := []) rfl rfl rfl rfl ⟨rfl, rfl, Nat.le_of_ble_eq_true rfl⟩ rfl rfl (hE (dd := d) (hd := by omega) (hW := hW559)  (ln := ln) (e_ln := show G554 9 = ln from ((hF560.1 9 rfl).trans ((hF378.1 9 rfl).trans (e_ln)))) (le := le) (e_le := show A555 4 (ln).toNat = le from (congrFun ((hF560.2 4 rfl).trans (hF378.2 4 rfl)) _).trans (e_le)) (at0 := at2_556) (e_at0 := show G554 10 = at2_556 from (e561)) (fk := fk2_558) (e_fk := show G554 16 = fk2_558 from (e563)) (op0 := op2_376) (e_op0 := show G554 15 = op2_376 from ((hF560.1 15 rfl).trans (e380))) (nd := nd) (e_nd := show G554 31 = nd from ((hF560.1 31 rfl).trans ((hF378.1 31 rfl).trans (e_nd)))) (tk0 := tk2_557) (e_tk0 := show G554 11 = tk2_557 from (e562)) (ec := ec) (e_ec := show ecn A555 (G554 31) = ec from ec569) (sy := sy) (e_sy := show G554 19 = sy from ((hF560.1 19 rfl).trans ((hF378.1 19 rfl).trans (e_sy)))) (i_SV := (SV_ext (((hF560.1 29 rfl).trans (hF378.1 29 rfl))) (((hF560.2 14 rfl).trans (hF378.2 14 rfl))) i_SV))   (p_0 := by omega) (p_1 := by omega) (p_2 := by omega) (p_3 := by omega) (p_4 := by omega) (p_5 := by omega)) (fun o V' hq => ?_)
                        obtain ⟨G719, A720, r721, at2_722, fk2_723, op2_724, nd2_725, tk2_726, ec2_727, rfl, rfl, hW728, hF729, hQ730, b731, e732, e733, e734, e735, e736, e737, p738, p739, p740, p741, p742, p743, q744⟩ := hq
                        have hF745 := Fr_tr hF567 hF729 (Fr_sub (by decide)) (Fr_sub (by decide))
                        have hP746 := Pf_tr hP568 hQ730 (by omega)
                        have bat2_722 : (0 : Int) ≤ at2_722 ∧ at2_722 ≤ 3002 := e732 ▸ hW728.1 10
                        have bfk2_723 : (0 : Int) ≤ fk2_723 ∧ fk2_723 ≤ 6 := e733 ▸ hW728.1 16
                        have bop2_724 : (-2147483648 : Int) ≤ op2_724 ∧ op2_724 ≤ 2147483647 := e734 ▸ hW728.1 15
                        have bnd2_725 : (0 : Int) ≤ nd2_725 ∧ nd2_725 ≤ 6999 := e735 ▸ hW728.1 31
                        have ztk2_726 := tz_b tk2_726
                        have btk2_726 : (0 : Int) ≤ tk2_726 ∧ tk2_726 ≤ 5 := e736 ▸ hW728.1 11
                        refine .inr ⟨_, rfl, ?_⟩
                        rcases q744 with ⟨a747, a748, a749, a750, a751, a752⟩ | ⟨a753, a754, a755⟩ | ⟨a756, a757, a758, a759, a760, a761, a762⟩
                        · have _q : True := trivial
                          exfalso
                          omega
                        · have _q : True := trivial
                          refine jx_ld (pc' := 102) (l' := jSto1 [(0, .ref 66)] 1 (.int (i32 (r721)))) (st' := []) rfl rfl ?_
                          obtain ⟨L763, eL763⟩ : ∃ q, q = jSto1 [(0, .ref 66)] 1 (.int (i32 (r721))) := ⟨_, rfl⟩
                          rw [← eL763]
                          have gL763_0 : jGet L763 0 = some (.ref 66) := eL763 ▸ jg_ne (by decide) (rfl : jGet [(0, .ref 66)] 0 = some (.ref 66)) rfl
                          have gL763_1 : jGet L763 1 = some (.int (i32 (r721))) := eL763 ▸ jg_eq
                          refine jx_ld (pc' := 103) (l' := L763) (st' := [.ref 66]) rfl (jl_aloadn gL763_0) ?_
                          refine jx_ld (pc' := 104) (l' := L763) (st' := [.ref 66, .ref 66]) rfl (jl_aloadn gL763_0) ?_
                          refine jx_ar (pc' := 106) (st' := [.int (i32 (41)), .ref 66, .ref 66]) rfl rfl rfl rfl ?_
                          have b764 : (-2147483648 : Int) ≤ G719 13 ∧ G719 13 ≤ 2147483647 := hW728.1 13
                          refine jx_vr (pc' := 109) (as := [.int (i32 (41))]) (st := [.ref 66]) rfl rfl rfl rfl ⟨rfl, rfl, Nat.le_of_ble_eq_true rfl⟩ rfl rfl (c_is (dd := d) (hd := by omega) (hW := hW728) (k := 41) (tk := tk2_726) (e_tk := show G719 11 = tk2_726 from (e736)) (tn := G719 13) (e_tn := show G719 13 = G719 13 from rfl)  (h_k := ⟨(by decide), (by decide)⟩)  ) (fun o V' hq => ?_)
                          obtain ⟨r765, rfl, rfl, b766, q767⟩ := hq
                          refine .inr ⟨_, rfl, ?_⟩
                          rcases q767 with ⟨rfl, a768, a769, a770⟩ | rfl
                          · have _q : True := trivial
                            refine jx_vr (pc' := 112) (as := [.int (i32 (1))]) (st := []) rfl rfl rfl rfl ⟨rfl, rfl, Nat.le_of_ble_eq_true rfl⟩ rfl rfl (c_need (dd := d) (hd := by omega) (hW := hW728) (g := 1) (ln := ln) (e_ln := show G719 9 = ln from ((hF729.1 9 rfl).trans ((hF560.1 9 rfl).trans ((hF378.1 9 rfl).trans (e_ln))))) (le := le) (e_le := show A720 4 (ln).toNat = le from (congrFun ((hF729.2 4 rfl).trans ((hF560.2 4 rfl).trans (hF378.2 4 rfl))) _).trans (e_le)) (at0 := at2_722) (e_at0 := show G719 10 = at2_722 from (e732)) (fk := fk2_723) (e_fk := show G719 16 = fk2_723 from (e733)) (tk0 := tk2_726) (e_tk0 := show G719 11 = tk2_726 from (e736))  (h_g := ⟨(by decide), (by decide)⟩)  (p_0 := by omega)) (fun o V' hq => ?_)
                            obtain ⟨G771, A772, at2_773, tk2_774, fk2_775, rfl, rfl, hW776, hF777, e778, e779, e780, p781, p782, q783⟩ := hq
                            have hF784 := Fr_tr hF745 hF777 (Fr_sub (by decide)) (Fr_sub (by decide))
                            have hP785 := Pf_f hP746 hF777 (by decide)
                            have ec786 : ecn A772 (G771 31) = ec2_727 := (ecn_f (hF777.2 15 rfl) (hF777.1 31 rfl)).trans e737
                            have bat2_773 : (0 : Int) ≤ at2_773 ∧ at2_773 ≤ 3002 := e778 ▸ hW776.1 10
                            have ztk2_774 := tz_b tk2_774
                            have btk2_774 : (0 : Int) ≤ tk2_774 ∧ tk2_774 ≤ 5 := e779 ▸ hW776.1 11
                            have bfk2_775 : (0 : Int) ≤ fk2_775 ∧ fk2_775 ≤ 6 := e780 ▸ hW776.1 16
                            refine .inl ⟨rfl, ?_⟩
                            rcases q783 with ⟨a787, a788, a789, a790⟩ | ⟨a791, a792, a793, a794⟩
                            · have _q : True := trivial
                              refine jx_ld (pc' := 113) (l' := L763) (st' := [.ref 66]) rfl (jl_aloadn gL763_0) ?_
                              refine jx_ar (pc' := 114) (st' := [.ref 66, .ref 66]) rfl rfl rfl rfl ?_
                              refine jr_get (pc' := 117) (i := 15) (v := .int (i32 (op2_724))) rfl rfl (by decide) (rFv_eq (by decide) (show G771 15 = op2_724 from ((hF777.1 15 rfl).trans (e734)))) rfl ?_
                              refine jx_ar (pc' := 118) (st' := [.int (i32 (1)), .int (i32 (op2_724)), .ref 66]) rfl rfl rfl rfl ?_
                              refine jx_sub (pc' := 119) rfl rfl ?_
                              refine jr_put (pc' := 122) (i := 15) (z := (op2_724 - 1)) rfl rfl (by decide) rfl rfl rfl rfl rfl rfl ?_
                              have hW795 : Wk (uG G771 15 ((op2_724 - 1))) A772 := Wk_g hW776 (show (-2147483648 : Int) ≤ (op2_724 - 1) by omega) (show (op2_724 - 1) ≤ (2147483647 : Int) by omega)
                              have hF796 := Fr_g (z := (op2_724 - 1)) (i := 15) hF784 (by decide)
                              have ec797 : ecn A772 ((uG G771 15 ((op2_724 - 1))) 31) = ec2_727 := ec786
                              refine jx_ld (pc' := 123) (l' := L763) (st' := [.ref 66]) rfl (jl_aloadn gL763_0) ?_
                              refine jx_ar (pc' := 125) (st' := [.int (i32 (7)), .ref 66]) rfl rfl rfl rfl ?_
                              refine jx_ld (pc' := 126) (l' := L763) (st' := [.int (i32 (r721)), .int (i32 (7)), .ref 66]) rfl (jl_iloadn gL763_1) ?_
                              refine jx_ar (pc' := 127) (st' := [.int (i32 (0)), .int (i32 (r721)), .int (i32 (7)), .ref 66]) rfl rfl rfl rfl ?_
                              refine jx_ar (pc' := 128) (st' := [.int (i32 (0)), .int (i32 (0)), .int (i32 (r721)), .int (i32 (7)), .ref 66]) rfl rfl rfl rfl ?_
                              refine jx_ar (pc' := 129) (st' := [.int (i32 (0)), .int (i32 (0)), .int (i32 (0)), .int (i32 (r721)), .int (i32 (7)), .ref 66]) rfl rfl rfl rfl ?_
                              refine jx_vr (pc' := 132) (as := [.int (i32 (7)), .int (i32 (r721)), .int (i32 (0)), .int (i32 (0)), .int (i32 (0))]) (st := []) rfl rfl rfl rfl ⟨rfl, rfl, Nat.le_of_ble_eq_true rfl⟩ rfl rfl (c_node_o (dd := d) (hd := by omega) (hW := hW795) (kind := 7) (a := r721) (b := 0) (c := 0) (e := 0) (nd := nd2_725) (e_nd := show (uG G771 15 ((op2_724 - 1))) 31 = nd2_725 from ((hF777.1 31 rfl).trans (e735))) (ec := ec2_727) (e_ec := show ecn A772 ((uG G771 15 ((op2_724 - 1))) 31) = ec2_727 from ec797) (sy := sy) (e_sy := show (uG G771 15 ((op2_724 - 1))) 19 = sy from ((hF777.1 19 rfl).trans ((hF729.1 19 rfl).trans ((hF560.1 19 rfl).trans ((hF378.1 19 rfl).trans (e_sy))))))  (h_kind := ⟨(by decide), (by decide)⟩) (h_a := ⟨(Int.le_trans (by decide : (-2147483648 : Int) ≤ -2147483648) b731.1), (Int.le_trans b731.2 (by decide : (2147483647 : Int) ≤ 2147483647))⟩) (h_b := ⟨(by decide), (by decide)⟩) (h_c := ⟨(by decide), (by decide)⟩) (h_e := ⟨(by decide), (by decide)⟩)  (p_0 := by omega) (p_1 := by omega) (p_2 := by omega)) (fun o V' hq => ?_)
                              obtain ⟨G798, A799, nd2_800, ec2_801, rfl, rfl, hW802, hF803, hQ804, e805, e806, p807, p808, p809, p810, -⟩ := hq
                              have hF812 := Fr_tr hF796 hF803 (Fr_sub (by decide)) (Fr_sub (by decide))
                              have hP813 := Pf_tr hP785 hQ804 (by omega)
                              have bnd2_800 : (0 : Int) ≤ nd2_800 ∧ nd2_800 ≤ 6999 := e805 ▸ hW802.1 31
                              refine .inr ⟨_, rfl, ?_⟩
                              refine jx_rt (v := some (.int (i32 (nd2_725)))) rfl rfl rfl rfl rfl rfl ?_
                              have z814 := tz_f (tk2_774)
                              exact ⟨_, _, _, at2_773, fk2_775, (op2_724 - 1), nd2_800, tk2_774, ec2_801, rfl, rfl, hW802, hF812, hP813, by omega, ((hF803.1 10 rfl).trans (e778)), ((hF803.1 16 rfl).trans (e780)), (hF803.1 15 rfl), (e805), ((hF803.1 11 rfl).trans (e779)), e806, by omega, by omega, by omega, by omega, by omega, by omega, by first | exact Or.inr (Or.inl (⟨by omega, by omega, by omega⟩))⟩
                            · have _q : True := trivial
                              exfalso
                              omega
                          · have _q : True := trivial
                            refine jx_vr (pc' := 112) (as := [.int (i32 (0))]) (st := []) rfl rfl rfl rfl ⟨rfl, rfl, Nat.le_of_ble_eq_true rfl⟩ rfl rfl (c_need (dd := d) (hd := by omega) (hW := hW728) (g := 0) (ln := ln) (e_ln := show G719 9 = ln from ((hF729.1 9 rfl).trans ((hF560.1 9 rfl).trans ((hF378.1 9 rfl).trans (e_ln))))) (le := le) (e_le := show A720 4 (ln).toNat = le from (congrFun ((hF729.2 4 rfl).trans ((hF560.2 4 rfl).trans (hF378.2 4 rfl))) _).trans (e_le)) (at0 := at2_722) (e_at0 := show G719 10 = at2_722 from (e732)) (fk := fk2_723) (e_fk := show G719 16 = fk2_723 from (e733)) (tk0 := tk2_726) (e_tk0 := show G719 11 = tk2_726 from (e736))  (h_g := ⟨(by decide), (by decide)⟩)  (p_0 := by omega)) (fun o V' hq => ?_)
                            obtain ⟨G815, A816, at2_817, tk2_818, fk2_819, rfl, rfl, hW820, hF821, e822, e823, e824, p825, p826, q827⟩ := hq
                            have hF828 := Fr_tr hF745 hF821 (Fr_sub (by decide)) (Fr_sub (by decide))
                            have hP829 := Pf_f hP746 hF821 (by decide)
                            have ec830 : ecn A816 (G815 31) = ec2_727 := (ecn_f (hF821.2 15 rfl) (hF821.1 31 rfl)).trans e737
                            have bat2_817 : (0 : Int) ≤ at2_817 ∧ at2_817 ≤ 3002 := e822 ▸ hW820.1 10
                            have ztk2_818 := tz_b tk2_818
                            have btk2_818 : (0 : Int) ≤ tk2_818 ∧ tk2_818 ≤ 5 := e823 ▸ hW820.1 11
                            have bfk2_819 : (0 : Int) ≤ fk2_819 ∧ fk2_819 ≤ 6 := e824 ▸ hW820.1 16
                            refine .inl ⟨rfl, ?_⟩
                            rcases q827 with ⟨a831, a832, a833, a834⟩ | ⟨a835, a836, a837, a838⟩
                            · have _q : True := trivial
                              refine jx_ld (pc' := 113) (l' := L763) (st' := [.ref 66]) rfl (jl_aloadn gL763_0) ?_
                              refine jx_ar (pc' := 114) (st' := [.ref 66, .ref 66]) rfl rfl rfl rfl ?_
                              refine jr_get (pc' := 117) (i := 15) (v := .int (i32 (op2_724))) rfl rfl (by decide) (rFv_eq (by decide) (show G815 15 = op2_724 from ((hF821.1 15 rfl).trans (e734)))) rfl ?_
                              refine jx_ar (pc' := 118) (st' := [.int (i32 (1)), .int (i32 (op2_724)), .ref 66]) rfl rfl rfl rfl ?_
                              refine jx_sub (pc' := 119) rfl rfl ?_
                              refine jr_put (pc' := 122) (i := 15) (z := (op2_724 - 1)) rfl rfl (by decide) rfl rfl rfl rfl rfl rfl ?_
                              have hW839 : Wk (uG G815 15 ((op2_724 - 1))) A816 := Wk_g hW820 (show (-2147483648 : Int) ≤ (op2_724 - 1) by omega) (show (op2_724 - 1) ≤ (2147483647 : Int) by omega)
                              have hF840 := Fr_g (z := (op2_724 - 1)) (i := 15) hF828 (by decide)
                              have ec841 : ecn A816 ((uG G815 15 ((op2_724 - 1))) 31) = ec2_727 := ec830
                              refine jx_ld (pc' := 123) (l' := L763) (st' := [.ref 66]) rfl (jl_aloadn gL763_0) ?_
                              refine jx_ar (pc' := 125) (st' := [.int (i32 (7)), .ref 66]) rfl rfl rfl rfl ?_
                              refine jx_ld (pc' := 126) (l' := L763) (st' := [.int (i32 (r721)), .int (i32 (7)), .ref 66]) rfl (jl_iloadn gL763_1) ?_
                              refine jx_ar (pc' := 127) (st' := [.int (i32 (0)), .int (i32 (r721)), .int (i32 (7)), .ref 66]) rfl rfl rfl rfl ?_
                              refine jx_ar (pc' := 128) (st' := [.int (i32 (0)), .int (i32 (0)), .int (i32 (r721)), .int (i32 (7)), .ref 66]) rfl rfl rfl rfl ?_
                              refine jx_ar (pc' := 129) (st' := [.int (i32 (0)), .int (i32 (0)), .int (i32 (0)), .int (i32 (r721)), .int (i32 (7)), .ref 66]) rfl rfl rfl rfl ?_
                              refine jx_vr (pc' := 132) (as := [.int (i32 (7)), .int (i32 (r721)), .int (i32 (0)), .int (i32 (0)), .int (i32 (0))]) (st := []) rfl rfl rfl rfl ⟨rfl, rfl, Nat.le_of_ble_eq_true rfl⟩ rfl rfl (c_node_o (dd := d) (hd := by omega) (hW := hW839) (kind := 7) (a := r721) (b := 0) (c := 0) (e := 0) (nd := nd2_725) (e_nd := show (uG G815 15 ((op2_724 - 1))) 31 = nd2_725 from ((hF821.1 31 rfl).trans (e735))) (ec := ec2_727) (e_ec := show ecn A816 ((uG G815 15 ((op2_724 - 1))) 31) = ec2_727 from ec841) (sy := sy) (e_sy := show (uG G815 15 ((op2_724 - 1))) 19 = sy from ((hF821.1 19 rfl).trans ((hF729.1 19 rfl).trans ((hF560.1 19 rfl).trans ((hF378.1 19 rfl).trans (e_sy))))))  (h_kind := ⟨(by decide), (by decide)⟩) (h_a := ⟨(Int.le_trans (by decide : (-2147483648 : Int) ≤ -2147483648) b731.1), (Int.le_trans b731.2 (by decide : (2147483647 : Int) ≤ 2147483647))⟩) (h_b := ⟨(by decide), (by decide)⟩) (h_c := ⟨(by decide), (by decide)⟩) (h_e := ⟨(by decide), (by decide)⟩)  (p_0 := by omega) (p_1 := by omega) (p_2 := by omega)) (fun o V' hq => ?_)
                              obtain ⟨G842, A843, nd2_844, ec2_845, rfl, rfl, hW846, hF847, hQ848, e849, e850, p851, p852, p853, p854, -⟩ := hq
                              have hF856 := Fr_tr hF840 hF847 (Fr_sub (by decide)) (Fr_sub (by decide))
                              have hP857 := Pf_tr hP829 hQ848 (by omega)
                              have bnd2_844 : (0 : Int) ≤ nd2_844 ∧ nd2_844 ≤ 6999 := e849 ▸ hW846.1 31
                              refine .inr ⟨_, rfl, ?_⟩
                              refine jx_rt (v := some (.int (i32 (nd2_725)))) rfl rfl rfl rfl rfl rfl ?_
                              have z858 := tz_f (tk2_818)
                              exact ⟨_, _, _, at2_817, fk2_819, (op2_724 - 1), nd2_844, tk2_818, ec2_845, rfl, rfl, hW846, hF856, hP857, by omega, ((hF847.1 10 rfl).trans (e822)), ((hF847.1 16 rfl).trans (e824)), (hF847.1 15 rfl), (e849), ((hF847.1 11 rfl).trans (e823)), e850, by omega, by omega, by omega, by omega, by omega, by omega, by first | exact Or.inr (Or.inl (⟨by omega, by omega, by omega⟩))⟩
                            · have _q : True := trivial
                              exfalso
                              omega
                        · have _q : True := trivial
                          refine jx_ld (pc' := 102) (l' := jSto1 [(0, .ref 66)] 1 (.int (i32 (r721)))) (st' := []) rfl rfl ?_
                          obtain ⟨L859, eL859⟩ : ∃ q, q = jSto1 [(0, .ref 66)] 1 (.int (i32 (r721))) := ⟨_, rfl⟩
                          rw [← eL859]
                          have gL859_0 : jGet L859 0 = some (.ref 66) := eL859 ▸ jg_ne (by decide) (rfl : jGet [(0, .ref 66)] 0 = some (.ref 66)) rfl
                          have gL859_1 : jGet L859 1 = some (.int (i32 (r721))) := eL859 ▸ jg_eq
                          refine jx_ld (pc' := 103) (l' := L859) (st' := [.ref 66]) rfl (jl_aloadn gL859_0) ?_
                          refine jx_ld (pc' := 104) (l' := L859) (st' := [.ref 66, .ref 66]) rfl (jl_aloadn gL859_0) ?_
                          refine jx_ar (pc' := 106) (st' := [.int (i32 (41)), .ref 66, .ref 66]) rfl rfl rfl rfl ?_
                          have b860 : (-2147483648 : Int) ≤ G719 13 ∧ G719 13 ≤ 2147483647 := hW728.1 13
                          refine jx_vr (pc' := 109) (as := [.int (i32 (41))]) (st := [.ref 66]) rfl rfl rfl rfl ⟨rfl, rfl, Nat.le_of_ble_eq_true rfl⟩ rfl rfl (c_is (dd := d) (hd := by omega) (hW := hW728) (k := 41) (tk := tk2_726) (e_tk := show G719 11 = tk2_726 from (e736)) (tn := G719 13) (e_tn := show G719 13 = G719 13 from rfl)  (h_k := ⟨(by decide), (by decide)⟩)  ) (fun o V' hq => ?_)
                          obtain ⟨r861, rfl, rfl, b862, q863⟩ := hq
                          refine .inr ⟨_, rfl, ?_⟩
                          rcases q863 with ⟨rfl, a864, a865, a866⟩ | rfl
                          · have _q : True := trivial
                            refine jx_vr (pc' := 112) (as := [.int (i32 (1))]) (st := []) rfl rfl rfl rfl ⟨rfl, rfl, Nat.le_of_ble_eq_true rfl⟩ rfl rfl (c_need (dd := d) (hd := by omega) (hW := hW728) (g := 1) (ln := ln) (e_ln := show G719 9 = ln from ((hF729.1 9 rfl).trans ((hF560.1 9 rfl).trans ((hF378.1 9 rfl).trans (e_ln))))) (le := le) (e_le := show A720 4 (ln).toNat = le from (congrFun ((hF729.2 4 rfl).trans ((hF560.2 4 rfl).trans (hF378.2 4 rfl))) _).trans (e_le)) (at0 := at2_722) (e_at0 := show G719 10 = at2_722 from (e732)) (fk := fk2_723) (e_fk := show G719 16 = fk2_723 from (e733)) (tk0 := tk2_726) (e_tk0 := show G719 11 = tk2_726 from (e736))  (h_g := ⟨(by decide), (by decide)⟩)  (p_0 := by omega)) (fun o V' hq => ?_)
                            obtain ⟨G867, A868, at2_869, tk2_870, fk2_871, rfl, rfl, hW872, hF873, e874, e875, e876, p877, p878, q879⟩ := hq
                            have hF880 := Fr_tr hF745 hF873 (Fr_sub (by decide)) (Fr_sub (by decide))
                            have hP881 := Pf_f hP746 hF873 (by decide)
                            have sf882 : wE A868 Vs sb (2 * k + 2) (r721) (nd) (nd2_725) := wE_ag (by omega) (Sg_fr hF873 (by decide)) (Ag_fr hF873 (by decide)) a759
                            have sf883 : NdM A868 (nd) (nd2_725) (sy) := NdM_f hF873 (by decide) a761
                            have ec884 : ecn A868 (G867 31) = ec2_727 := (ecn_f (hF873.2 15 rfl) (hF873.1 31 rfl)).trans e737
                            have bat2_869 : (0 : Int) ≤ at2_869 ∧ at2_869 ≤ 3002 := e874 ▸ hW872.1 10
                            have ztk2_870 := tz_b tk2_870
                            have btk2_870 : (0 : Int) ≤ tk2_870 ∧ tk2_870 ≤ 5 := e875 ▸ hW872.1 11
                            have bfk2_871 : (0 : Int) ≤ fk2_871 ∧ fk2_871 ≤ 6 := e876 ▸ hW872.1 16
                            refine .inl ⟨rfl, ?_⟩
                            rcases q879 with ⟨a885, a886, a887, a888⟩ | ⟨a889, a890, a891, a892⟩
                            · have _q : True := trivial
                              refine jx_ld (pc' := 113) (l' := L859) (st' := [.ref 66]) rfl (jl_aloadn gL859_0) ?_
                              refine jx_ar (pc' := 114) (st' := [.ref 66, .ref 66]) rfl rfl rfl rfl ?_
                              refine jr_get (pc' := 117) (i := 15) (v := .int (i32 (op2_724))) rfl rfl (by decide) (rFv_eq (by decide) (show G867 15 = op2_724 from ((hF873.1 15 rfl).trans (e734)))) rfl ?_
                              refine jx_ar (pc' := 118) (st' := [.int (i32 (1)), .int (i32 (op2_724)), .ref 66]) rfl rfl rfl rfl ?_
                              refine jx_sub (pc' := 119) rfl rfl ?_
                              refine jr_put (pc' := 122) (i := 15) (z := (op2_724 - 1)) rfl rfl (by decide) rfl rfl rfl rfl rfl rfl ?_
                              have hW893 : Wk (uG G867 15 ((op2_724 - 1))) A868 := Wk_g hW872 (show (-2147483648 : Int) ≤ (op2_724 - 1) by omega) (show (op2_724 - 1) ≤ (2147483647 : Int) by omega)
                              have hF894 := Fr_g (z := (op2_724 - 1)) (i := 15) hF880 (by decide)
                              have ec895 : ecn A868 ((uG G867 15 ((op2_724 - 1))) 31) = ec2_727 := ec884
                              refine jx_ld (pc' := 123) (l' := L859) (st' := [.ref 66]) rfl (jl_aloadn gL859_0) ?_
                              refine jx_ar (pc' := 125) (st' := [.int (i32 (7)), .ref 66]) rfl rfl rfl rfl ?_
                              refine jx_ld (pc' := 126) (l' := L859) (st' := [.int (i32 (r721)), .int (i32 (7)), .ref 66]) rfl (jl_iloadn gL859_1) ?_
                              refine jx_ar (pc' := 127) (st' := [.int (i32 (0)), .int (i32 (r721)), .int (i32 (7)), .ref 66]) rfl rfl rfl rfl ?_
                              refine jx_ar (pc' := 128) (st' := [.int (i32 (0)), .int (i32 (0)), .int (i32 (r721)), .int (i32 (7)), .ref 66]) rfl rfl rfl rfl ?_
                              refine jx_ar (pc' := 129) (st' := [.int (i32 (0)), .int (i32 (0)), .int (i32 (0)), .int (i32 (r721)), .int (i32 (7)), .ref 66]) rfl rfl rfl rfl ?_
                              refine jx_vr (pc' := 132) (as := [.int (i32 (7)), .int (i32 (r721)), .int (i32 (0)), .int (i32 (0)), .int (i32 (0))]) (st := []) rfl rfl rfl rfl ⟨rfl, rfl, Nat.le_of_ble_eq_true rfl⟩ rfl rfl (c_node_o (dd := d) (hd := by omega) (hW := hW893) (kind := 7) (a := r721) (b := 0) (c := 0) (e := 0) (nd := nd2_725) (e_nd := show (uG G867 15 ((op2_724 - 1))) 31 = nd2_725 from ((hF873.1 31 rfl).trans (e735))) (ec := ec2_727) (e_ec := show ecn A868 ((uG G867 15 ((op2_724 - 1))) 31) = ec2_727 from ec895) (sy := sy) (e_sy := show (uG G867 15 ((op2_724 - 1))) 19 = sy from ((hF873.1 19 rfl).trans ((hF729.1 19 rfl).trans ((hF560.1 19 rfl).trans ((hF378.1 19 rfl).trans (e_sy))))))  (h_kind := ⟨(by decide), (by decide)⟩) (h_a := ⟨(Int.le_trans (by decide : (-2147483648 : Int) ≤ -2147483648) b731.1), (Int.le_trans b731.2 (by decide : (2147483647 : Int) ≤ 2147483647))⟩) (h_b := ⟨(by decide), (by decide)⟩) (h_c := ⟨(by decide), (by decide)⟩) (h_e := ⟨(by decide), (by decide)⟩)  (p_0 := by omega) (p_1 := by omega) (p_2 := by omega)) (fun o V' hq => ?_)
                              obtain ⟨G896, A897, nd2_898, ec2_899, rfl, rfl, hW900, hF901, hQ902, e903, e904, p905, p906, p907, p908, -⟩ := hq
                              have hF910 := Fr_tr hF894 hF901 (Fr_sub (by decide)) (Fr_sub (by decide))
                              have hP911 := Pf_tr hP881 hQ902 (by omega)
                              have sf912 : wE A897 Vs sb (2 * k + 2) (r721) (nd) (nd2_725) := wE_ag (by omega) (Sg_fr hF901 (by decide)) (Ag_pf hQ902 (by omega)) sf882
                              have sf913 : NdM A897 (nd) (nd2_725) (sy) := NdM_pf hQ902 (by omega) (by omega) sf883
                              have bnd2_898 : (0 : Int) ≤ nd2_898 ∧ nd2_898 ≤ 6999 := e903 ▸ hW900.1 31
                              refine .inr ⟨_, rfl, ?_⟩
                              refine jx_rt (v := some (.int (i32 (nd2_725)))) rfl rfl rfl rfl rfl rfl ?_
                              have z914 := tz_f (tk2_870)
                              exact ⟨_, _, _, at2_869, fk2_871, (op2_724 - 1), nd2_898, tk2_870, ec2_899, rfl, rfl, hW900, hF910, hP911, by omega, ((hF901.1 10 rfl).trans (e874)), ((hF901.1 16 rfl).trans (e876)), (hF901.1 15 rfl), (e903), ((hF901.1 11 rfl).trans (e875)), e904, by omega, by omega, by omega, by omega, by omega, by omega, by first | exact Or.inr (Or.inl (⟨by omega, by omega, by omega⟩))⟩
                            · have _q : True := trivial
                              have pz915 : at2_722 + tz tk2_870 ≤ at2_869 := by omega
                              refine jx_ld (pc' := 113) (l' := L859) (st' := [.ref 66]) rfl (jl_aloadn gL859_0) ?_
                              refine jx_ar (pc' := 114) (st' := [.ref 66, .ref 66]) rfl rfl rfl rfl ?_
                              refine jr_get (pc' := 117) (i := 15) (v := .int (i32 (op2_724))) rfl rfl (by decide) (rFv_eq (by decide) (show G867 15 = op2_724 from ((hF873.1 15 rfl).trans (e734)))) rfl ?_
                              refine jx_ar (pc' := 118) (st' := [.int (i32 (1)), .int (i32 (op2_724)), .ref 66]) rfl rfl rfl rfl ?_
                              refine jx_sub (pc' := 119) rfl rfl ?_
                              refine jr_put (pc' := 122) (i := 15) (z := (op2_724 - 1)) rfl rfl (by decide) rfl rfl rfl rfl rfl rfl ?_
                              have hW916 : Wk (uG G867 15 ((op2_724 - 1))) A868 := Wk_g hW872 (show (-2147483648 : Int) ≤ (op2_724 - 1) by omega) (show (op2_724 - 1) ≤ (2147483647 : Int) by omega)
                              have hF917 := Fr_g (z := (op2_724 - 1)) (i := 15) hF880 (by decide)
                              have ec918 : ecn A868 ((uG G867 15 ((op2_724 - 1))) 31) = ec2_727 := ec884
                              refine jx_ld (pc' := 123) (l' := L859) (st' := [.ref 66]) rfl (jl_aloadn gL859_0) ?_
                              refine jx_ar (pc' := 125) (st' := [.int (i32 (7)), .ref 66]) rfl rfl rfl rfl ?_
                              refine jx_ld (pc' := 126) (l' := L859) (st' := [.int (i32 (r721)), .int (i32 (7)), .ref 66]) rfl (jl_iloadn gL859_1) ?_
                              refine jx_ar (pc' := 127) (st' := [.int (i32 (0)), .int (i32 (r721)), .int (i32 (7)), .ref 66]) rfl rfl rfl rfl ?_
                              refine jx_ar (pc' := 128) (st' := [.int (i32 (0)), .int (i32 (0)), .int (i32 (r721)), .int (i32 (7)), .ref 66]) rfl rfl rfl rfl ?_
                              refine jx_ar (pc' := 129) (st' := [.int (i32 (0)), .int (i32 (0)), .int (i32 (0)), .int (i32 (r721)), .int (i32 (7)), .ref 66]) rfl rfl rfl rfl ?_
                              refine jx_vr (pc' := 132) (as := [.int (i32 (7)), .int (i32 (r721)), .int (i32 (0)), .int (i32 (0)), .int (i32 (0))]) (st := []) rfl rfl rfl rfl ⟨rfl, rfl, Nat.le_of_ble_eq_true rfl⟩ rfl rfl (c_node_o (dd := d) (hd := by omega) (hW := hW916) (kind := 7) (a := r721) (b := 0) (c := 0) (e := 0) (nd := nd2_725) (e_nd := show (uG G867 15 ((op2_724 - 1))) 31 = nd2_725 from ((hF873.1 31 rfl).trans (e735))) (ec := ec2_727) (e_ec := show ecn A868 ((uG G867 15 ((op2_724 - 1))) 31) = ec2_727 from ec918) (sy := sy) (e_sy := show (uG G867 15 ((op2_724 - 1))) 19 = sy from ((hF873.1 19 rfl).trans ((hF729.1 19 rfl).trans ((hF560.1 19 rfl).trans ((hF378.1 19 rfl).trans (e_sy))))))  (h_kind := ⟨(by decide), (by decide)⟩) (h_a := ⟨(Int.le_trans (by decide : (-2147483648 : Int) ≤ -2147483648) b731.1), (Int.le_trans b731.2 (by decide : (2147483647 : Int) ≤ 2147483647))⟩) (h_b := ⟨(by decide), (by decide)⟩) (h_c := ⟨(by decide), (by decide)⟩) (h_e := ⟨(by decide), (by decide)⟩)  (p_0 := by omega) (p_1 := by omega) (p_2 := by omega)) (fun o V' hq => ?_)
                              obtain ⟨G919, A920, nd2_921, ec2_922, rfl, rfl, hW923, hF924, hQ925, e926, e927, p928, p929, p930, p931, -⟩ := hq
                              have hF933 := Fr_tr hF917 hF924 (Fr_sub (by decide)) (Fr_sub (by decide))
                              have hP934 := Pf_tr hP881 hQ925 (by omega)
                              have sf935 : wE A920 Vs sb (2 * k + 2) (r721) (nd) (nd2_725) := wE_ag (by omega) (Sg_fr hF924 (by decide)) (Ag_pf hQ925 (by omega)) sf882
                              have sf936 : NdM A920 (nd) (nd2_725) (sy) := NdM_pf hQ925 (by omega) (by omega) sf883
                              have bnd2_921 : (0 : Int) ≤ nd2_921 ∧ nd2_921 ≤ 6999 := e926 ▸ hW923.1 31
                              refine .inr ⟨_, rfl, ?_⟩
                              refine jx_rt (v := some (.int (i32 (nd2_725)))) rfl rfl rfl rfl rfl rfl ?_
                              have z937 := tz_f (tk2_870)
                              exact ⟨_, _, _, at2_869, fk2_871, (op2_724 - 1), nd2_921, tk2_870, ec2_922, rfl, rfl, hW923, hF933, hP934, by omega, ((hF924.1 10 rfl).trans (e874)), ((hF924.1 16 rfl).trans (e876)), (hF924.1 15 rfl), (e926), ((hF924.1 11 rfl).trans (e875)), e927, by omega, by omega, by omega, by omega, by omega, by omega, by first | exact Or.inr (Or.inr ((⟨by omega, by omega, by omega, (wE_one p930 (by omega) (by omega) (by omega) (wE_mono (by omega) (by omega) (by omega) sf935)), by omega, (NdM_w (NdM_app (sy := sy) sf936 p931 (by omega) (by omega) (by omega)) (by omega) (by omega) (by omega)), by omega⟩)))⟩
                          · have _q : True := trivial
                            refine jx_vr (pc' := 112) (as := [.int (i32 (0))]) (st := []) rfl rfl rfl rfl ⟨rfl, rfl, Nat.le_of_ble_eq_true rfl⟩ rfl rfl (c_need (dd := d) (hd := by omega) (hW := hW728) (g := 0) (ln := ln) (e_ln := show G719 9 = ln from ((hF729.1 9 rfl).trans ((hF560.1 9 rfl).trans ((hF378.1 9 rfl).trans (e_ln))))) (le := le) (e_le := show A720 4 (ln).toNat = le from (congrFun ((hF729.2 4 rfl).trans ((hF560.2 4 rfl).trans (hF378.2 4 rfl))) _).trans (e_le)) (at0 := at2_722) (e_at0 := show G719 10 = at2_722 from (e732)) (fk := fk2_723) (e_fk := show G719 16 = fk2_723 from (e733)) (tk0 := tk2_726) (e_tk0 := show G719 11 = tk2_726 from (e736))  (h_g := ⟨(by decide), (by decide)⟩)  (p_0 := by omega)) (fun o V' hq => ?_)
                            obtain ⟨G938, A939, at2_940, tk2_941, fk2_942, rfl, rfl, hW943, hF944, e945, e946, e947, p948, p949, q950⟩ := hq
                            have hF951 := Fr_tr hF745 hF944 (Fr_sub (by decide)) (Fr_sub (by decide))
                            have hP952 := Pf_f hP746 hF944 (by decide)
                            have sf953 : wE A939 Vs sb (2 * k + 2) (r721) (nd) (nd2_725) := wE_ag (by omega) (Sg_fr hF944 (by decide)) (Ag_fr hF944 (by decide)) a759
                            have sf954 : NdM A939 (nd) (nd2_725) (sy) := NdM_f hF944 (by decide) a761
                            have ec955 : ecn A939 (G938 31) = ec2_727 := (ecn_f (hF944.2 15 rfl) (hF944.1 31 rfl)).trans e737
                            have bat2_940 : (0 : Int) ≤ at2_940 ∧ at2_940 ≤ 3002 := e945 ▸ hW943.1 10
                            have ztk2_941 := tz_b tk2_941
                            have btk2_941 : (0 : Int) ≤ tk2_941 ∧ tk2_941 ≤ 5 := e946 ▸ hW943.1 11
                            have bfk2_942 : (0 : Int) ≤ fk2_942 ∧ fk2_942 ≤ 6 := e947 ▸ hW943.1 16
                            refine .inl ⟨rfl, ?_⟩
                            rcases q950 with ⟨a956, a957, a958, a959⟩ | ⟨a960, a961, a962, a963⟩
                            · have _q : True := trivial
                              refine jx_ld (pc' := 113) (l' := L859) (st' := [.ref 66]) rfl (jl_aloadn gL859_0) ?_
                              refine jx_ar (pc' := 114) (st' := [.ref 66, .ref 66]) rfl rfl rfl rfl ?_
                              refine jr_get (pc' := 117) (i := 15) (v := .int (i32 (op2_724))) rfl rfl (by decide) (rFv_eq (by decide) (show G938 15 = op2_724 from ((hF944.1 15 rfl).trans (e734)))) rfl ?_
                              refine jx_ar (pc' := 118) (st' := [.int (i32 (1)), .int (i32 (op2_724)), .ref 66]) rfl rfl rfl rfl ?_
                              refine jx_sub (pc' := 119) rfl rfl ?_
                              refine jr_put (pc' := 122) (i := 15) (z := (op2_724 - 1)) rfl rfl (by decide) rfl rfl rfl rfl rfl rfl ?_
                              have hW964 : Wk (uG G938 15 ((op2_724 - 1))) A939 := Wk_g hW943 (show (-2147483648 : Int) ≤ (op2_724 - 1) by omega) (show (op2_724 - 1) ≤ (2147483647 : Int) by omega)
                              have hF965 := Fr_g (z := (op2_724 - 1)) (i := 15) hF951 (by decide)
                              have ec966 : ecn A939 ((uG G938 15 ((op2_724 - 1))) 31) = ec2_727 := ec955
                              refine jx_ld (pc' := 123) (l' := L859) (st' := [.ref 66]) rfl (jl_aloadn gL859_0) ?_
                              refine jx_ar (pc' := 125) (st' := [.int (i32 (7)), .ref 66]) rfl rfl rfl rfl ?_
                              refine jx_ld (pc' := 126) (l' := L859) (st' := [.int (i32 (r721)), .int (i32 (7)), .ref 66]) rfl (jl_iloadn gL859_1) ?_
                              refine jx_ar (pc' := 127) (st' := [.int (i32 (0)), .int (i32 (r721)), .int (i32 (7)), .ref 66]) rfl rfl rfl rfl ?_
                              refine jx_ar (pc' := 128) (st' := [.int (i32 (0)), .int (i32 (0)), .int (i32 (r721)), .int (i32 (7)), .ref 66]) rfl rfl rfl rfl ?_
                              refine jx_ar (pc' := 129) (st' := [.int (i32 (0)), .int (i32 (0)), .int (i32 (0)), .int (i32 (r721)), .int (i32 (7)), .ref 66]) rfl rfl rfl rfl ?_
                              refine jx_vr (pc' := 132) (as := [.int (i32 (7)), .int (i32 (r721)), .int (i32 (0)), .int (i32 (0)), .int (i32 (0))]) (st := []) rfl rfl rfl rfl ⟨rfl, rfl, Nat.le_of_ble_eq_true rfl⟩ rfl rfl (c_node_o (dd := d) (hd := by omega) (hW := hW964) (kind := 7) (a := r721) (b := 0) (c := 0) (e := 0) (nd := nd2_725) (e_nd := show (uG G938 15 ((op2_724 - 1))) 31 = nd2_725 from ((hF944.1 31 rfl).trans (e735))) (ec := ec2_727) (e_ec := show ecn A939 ((uG G938 15 ((op2_724 - 1))) 31) = ec2_727 from ec966) (sy := sy) (e_sy := show (uG G938 15 ((op2_724 - 1))) 19 = sy from ((hF944.1 19 rfl).trans ((hF729.1 19 rfl).trans ((hF560.1 19 rfl).trans ((hF378.1 19 rfl).trans (e_sy))))))  (h_kind := ⟨(by decide), (by decide)⟩) (h_a := ⟨(Int.le_trans (by decide : (-2147483648 : Int) ≤ -2147483648) b731.1), (Int.le_trans b731.2 (by decide : (2147483647 : Int) ≤ 2147483647))⟩) (h_b := ⟨(by decide), (by decide)⟩) (h_c := ⟨(by decide), (by decide)⟩) (h_e := ⟨(by decide), (by decide)⟩)  (p_0 := by omega) (p_1 := by omega) (p_2 := by omega)) (fun o V' hq => ?_)
                              obtain ⟨G967, A968, nd2_969, ec2_970, rfl, rfl, hW971, hF972, hQ973, e974, e975, p976, p977, p978, p979, -⟩ := hq
                              have hF981 := Fr_tr hF965 hF972 (Fr_sub (by decide)) (Fr_sub (by decide))
                              have hP982 := Pf_tr hP952 hQ973 (by omega)
                              have sf983 : wE A968 Vs sb (2 * k + 2) (r721) (nd) (nd2_725) := wE_ag (by omega) (Sg_fr hF972 (by decide)) (Ag_pf hQ973 (by omega)) sf953
                              have sf984 : NdM A968 (nd) (nd2_725) (sy) := NdM_pf hQ973 (by omega) (by omega) sf954
                              have bnd2_969 : (0 : Int) ≤ nd2_969 ∧ nd2_969 ≤ 6999 := e974 ▸ hW971.1 31
                              refine .inr ⟨_, rfl, ?_⟩
                              refine jx_rt (v := some (.int (i32 (nd2_725)))) rfl rfl rfl rfl rfl rfl ?_
                              have z985 := tz_f (tk2_941)
                              exact ⟨_, _, _, at2_940, fk2_942, (op2_724 - 1), nd2_969, tk2_941, ec2_970, rfl, rfl, hW971, hF981, hP982, by omega, ((hF972.1 10 rfl).trans (e945)), ((hF972.1 16 rfl).trans (e947)), (hF972.1 15 rfl), (e974), ((hF972.1 11 rfl).trans (e946)), e975, by omega, by omega, by omega, by omega, by omega, by omega, by first | exact Or.inr (Or.inl (⟨by omega, by omega, by omega⟩))⟩
                            · have _q : True := trivial
                              exfalso
                              omega
                · have _q : True := trivial
                  refine jx_if_eq (pc' := 88) (tg := 133) rfl rfl rfl (by decide) (by decide) (fun h986 => ?_) (fun h986 => ?_)
                  · have _q := h986
                    refine jx_ld (pc' := 134) (l' := [(0, .ref 66)]) (st' := [.ref 66]) rfl (jl_aloadn rfl) ?_
                    have z987 := tz_f (tk0)
                    refine jr_get (pc' := 137) (i := 11) (v := .int (i32 (tk0))) rfl rfl (by decide) (rFv_eq (by decide) (show G 11 = tk0 from (e_tk0))) rfl ?_
                    refine jx_ar (pc' := 138) (st' := [.int (i32 (1)), .int (i32 (tk0))]) rfl rfl rfl rfl ?_
                    refine jx_icmp_eq (pc' := 141) (tg := 152) rfl rfl rfl (Int.le_trans (by decide : (-2147483648 : Int) ≤ 0) b_tk0.1) (Int.le_trans b_tk0.2 (by decide : (5 : Int) ≤ 2147483647)) (by decide) (by decide) (fun h988 => ?_) (fun h988 => ?_)
                    · have _q := h988
                      refine jx_ld (pc' := 153) (l' := [(0, .ref 66)]) (st' := [.ref 66]) rfl (jl_aloadn rfl) ?_
                      have b989 : (-3000 : Int) ≤ G 12 ∧ G 12 ≤ 3002 := hW.1 12
                      refine jr_get (pc' := 156) (i := 12) (v := .int (i32 (G 12))) rfl rfl (by decide) rfl rfl ?_
                      refine jx_ld (pc' := 157) (l' := jSto1 [(0, .ref 66)] 1 (.int (i32 (G 12)))) (st' := []) rfl rfl ?_
                      obtain ⟨L990, eL990⟩ : ∃ q, q = jSto1 [(0, .ref 66)] 1 (.int (i32 (G 12))) := ⟨_, rfl⟩
                      rw [← eL990]
                      have gL990_0 : jGet L990 0 = some (.ref 66) := eL990 ▸ jg_ne (by decide) (rfl : jGet [(0, .ref 66)] 0 = some (.ref 66)) rfl
                      have gL990_1 : jGet L990 1 = some (.int (i32 (G 12))) := eL990 ▸ jg_eq
                      refine jx_ld (pc' := 158) (l' := L990) (st' := [.ref 66]) rfl (jl_aloadn gL990_0) ?_
                      refine jx_vr (pc' := 161) (as := []) (st := []) rfl rfl rfl rfl ⟨rfl, rfl, Nat.le_of_ble_eq_true rfl⟩ rfl rfl (c_lookUp (dd := d) (hd := by omega) (hW := hW)  (fk := fk) (e_fk := show G 16 = fk from (e_fk)) (i_SV := (SV_ext (rfl) (rfl) i_SV))   ) (fun o V' hq => ?_)
                      obtain ⟨G991, A992, r993, fk2_994, rfl, rfl, hW995, hF996, b997, e998, q999⟩ := hq
                      have hF1000 := Fr_tr hF0 hF996 (Fr_sub (by decide)) (Fr_sub (by decide))
                      have hP1001 := Pf_f hP0 hF996 (by decide)
                      have ec1002 : ecn A992 (G991 31) = ec := (ecn_f (hF996.2 15 rfl) (hF996.1 31 rfl)).trans e_ec
                      have bfk2_994 : (0 : Int) ≤ fk2_994 ∧ fk2_994 ≤ 6 := e998 ▸ hW995.1 16
                      refine .inr ⟨_, rfl, ?_⟩
                      rcases q999 with ⟨a1003, a1004⟩ | ⟨a1005, a1006, a1007, a1008⟩
                      · have _q : True := trivial
                        refine jx_ld (pc' := 162) (l' := jSto1 L990 2 (.int (i32 (r993)))) (st' := []) rfl rfl ?_
                        obtain ⟨L1009, eL1009⟩ : ∃ q, q = jSto1 L990 2 (.int (i32 (r993))) := ⟨_, rfl⟩
                        rw [← eL1009]
                        have gL1009_0 : jGet L1009 0 = some (.ref 66) := eL1009 ▸ jg_ne (by decide) gL990_0 rfl
                        have gL1009_1 : jGet L1009 1 = some (.int (i32 (G 12))) := eL1009 ▸ jg_ne (by decide) gL990_1 rfl
                        have gL1009_2 : jGet L1009 2 = some (.int (i32 (r993))) := eL1009 ▸ jg_eq
                        refine jx_ld (pc' := 163) (l' := L1009) (st' := [.ref 66]) rfl (jl_aloadn gL1009_0) ?_
                        refine jx_vr (pc' := 166) (as := []) (st := []) rfl rfl rfl rfl ⟨rfl, rfl, Nat.le_of_ble_eq_true rfl⟩ rfl rfl (c_bad (dd := d) (hd := by omega) (hW := hW995)  (fk := fk2_994) (e_fk := show G991 16 = fk2_994 from (e998))    ) (fun o V' hq => ?_)
                        obtain ⟨r1010, rfl, rfl, b1011, q1012⟩ := hq
                        refine .inr ⟨_, rfl, ?_⟩
                        rcases q1012 with ⟨rfl, a1013⟩ | ⟨rfl, a1014⟩
                        · have _q : True := trivial
                          refine jx_if_eq (pc' := 169) (tg := 171) rfl rfl rfl (by decide) (by decide) (fun h1015 => ?_) (fun h1015 => ?_)
                          · have _q := h1015
                            exact absurd h1015 (by omega)
                          · have _q := h1015
                            refine jx_ar (pc' := 170) (st' := [.int (i32 (0))]) rfl rfl rfl rfl ?_
                            refine jx_rt (v := some (.int (i32 (0)))) rfl rfl rfl rfl rfl rfl ?_
                            have z1016 := tz_f (tk0)
                            exact ⟨_, _, _, at0, fk2_994, op0, nd, tk0, ec, rfl, rfl, hW995, hF1000, hP1001, by omega, ((hF996.1 10 rfl).trans (e_at0)), (e998), ((hF996.1 15 rfl).trans (e_op0)), ((hF996.1 31 rfl).trans (e_nd)), ((hF996.1 11 rfl).trans (e_tk0)), ec1002, by omega, by omega, by omega, by omega, by omega, by omega, by first | exact Or.inr (Or.inl (⟨by omega, by omega, by omega⟩))⟩
                        · have _q : True := trivial
                          exfalso
                          omega
                      · have _q : True := trivial
                        refine jx_ld (pc' := 162) (l' := jSto1 L990 2 (.int (i32 (r993)))) (st' := []) rfl rfl ?_
                        obtain ⟨L1017, eL1017⟩ : ∃ q, q = jSto1 L990 2 (.int (i32 (r993))) := ⟨_, rfl⟩
                        rw [← eL1017]
                        have gL1017_0 : jGet L1017 0 = some (.ref 66) := eL1017 ▸ jg_ne (by decide) gL990_0 rfl
                        have gL1017_1 : jGet L1017 1 = some (.int (i32 (G 12))) := eL1017 ▸ jg_ne (by decide) gL990_1 rfl
                        have gL1017_2 : jGet L1017 2 = some (.int (i32 (r993))) := eL1017 ▸ jg_eq
                        refine jx_ld (pc' := 163) (l' := L1017) (st' := [.ref 66]) rfl (jl_aloadn gL1017_0) ?_
                        refine jx_vr (pc' := 166) (as := []) (st := []) rfl rfl rfl rfl ⟨rfl, rfl, Nat.le_of_ble_eq_true rfl⟩ rfl rfl (c_bad (dd := d) (hd := by omega) (hW := hW995)  (fk := fk2_994) (e_fk := show G991 16 = fk2_994 from (e998))    ) (fun o V' hq => ?_)
                        obtain ⟨r1018, rfl, rfl, b1019, q1020⟩ := hq
                        refine .inr ⟨_, rfl, ?_⟩
                        rcases q1020 with ⟨rfl, a1021⟩ | ⟨rfl, a1022⟩
                        · have _q : True := trivial
                          exfalso
                          omega
                        · have _q : True := trivial
                          refine jx_if_eq (pc' := 169) (tg := 171) rfl rfl rfl (by decide) (by decide) (fun h1023 => ?_) (fun h1023 => ?_)
                          · have _q := h1023
                            refine jx_ld (pc' := 172) (l' := L1017) (st' := [.ref 66]) rfl (jl_aloadn gL1017_0) ?_
                            refine jx_vr (pc' := 175) (as := []) (st := []) rfl rfl rfl rfl ⟨rfl, rfl, Nat.le_of_ble_eq_true rfl⟩ rfl rfl (c_next (dd := d) (hd := by omega) (hW := hW995)  (ln := ln) (e_ln := show G991 9 = ln from ((hF996.1 9 rfl).trans (e_ln))) (le := le) (e_le := show A992 4 (ln).toNat = le from (congrFun (hF996.2 4 rfl) _).trans (e_le)) (at0 := at0) (e_at0 := show G991 10 = at0 from ((hF996.1 10 rfl).trans (e_at0)))    (p_0 := by omega)) (fun o V' hq => ?_)
                            obtain ⟨G1024, A1025, at2_1026, tk2_1027, rfl, rfl, hW1028, hF1029, e1030, e1031, p1032, p1033, p1034, -⟩ := hq
                            have hF1036 := Fr_tr hF1000 hF1029 (Fr_sub (by decide)) (Fr_sub (by decide))
                            have hP1037 := Pf_f hP1001 hF1029 (by decide)
                            have ec1038 : ecn A1025 (G1024 31) = ec := (ecn_f (hF1029.2 15 rfl) (hF1029.1 31 rfl)).trans ec1002
                            have bat2_1026 : (0 : Int) ≤ at2_1026 ∧ at2_1026 ≤ 3002 := e1030 ▸ hW1028.1 10
                            have ztk2_1027 := tz_b tk2_1027
                            have btk2_1027 : (0 : Int) ≤ tk2_1027 ∧ tk2_1027 ≤ 5 := e1031 ▸ hW1028.1 11
                            refine .inl ⟨rfl, ?_⟩
                            have pz1039 : at0 + tz tk2_1027 ≤ at2_1026 := by omega
                            refine jx_ld (pc' := 176) (l' := L1017) (st' := [.ref 66]) rfl (jl_aloadn gL1017_0) ?_
                            refine jx_ld (pc' := 177) (l' := L1017) (st' := [.int (i32 (r993)), .ref 66]) rfl (jl_iloadn gL1017_2) ?_
                            refine jx_ld (pc' := 178) (l' := L1017) (st' := [.int (i32 (G 12)), .int (i32 (r993)), .ref 66]) rfl (jl_iloadn gL1017_1) ?_
                            refine jx_vr (pc' := 181) (as := [.int (i32 (r993)), .int (i32 (G 12))]) (st := []) rfl rfl rfl rfl ⟨rfl, rfl, Nat.le_of_ble_eq_true rfl⟩ rfl rfl (c_readValue_w (dd := d) (hE := hE) (hd := by omega) (hW := hW1028) (s := r993) (place := G 12) (ln := ln) (e_ln := show G1024 9 = ln from ((hF1029.1 9 rfl).trans ((hF996.1 9 rfl).trans (e_ln)))) (le := le) (e_le := show A1025 4 (ln).toNat = le from (congrFun ((hF1029.2 4 rfl).trans (hF996.2 4 rfl)) _).trans (e_le)) (at0 := at2_1026) (e_at0 := show G1024 10 = at2_1026 from (e1030)) (fk := fk2_994) (e_fk := show G1024 16 = fk2_994 from ((hF1029.1 16 rfl).trans (e998))) (op0 := op0) (e_op0 := show G1024 15 = op0 from ((hF1029.1 15 rfl).trans ((hF996.1 15 rfl).trans (e_op0)))) (nd := nd) (e_nd := show G1024 31 = nd from ((hF1029.1 31 rfl).trans ((hF996.1 31 rfl).trans (e_nd)))) (tk0 := tk2_1027) (e_tk0 := show G1024 11 = tk2_1027 from (e1031)) (ec := ec) (e_ec := show ecn A1025 (G1024 31) = ec from ec1038) (sy := sy) (e_sy := show G1024 19 = sy from ((hF1029.1 19 rfl).trans ((hF996.1 19 rfl).trans (e_sy)))) (i_SV := (SV_ext (((hF1029.1 29 rfl).trans (hF996.1 29 rfl))) (((hF1029.2 14 rfl).trans (hF996.2 14 rfl))) i_SV)) (h_s := ⟨(Int.le_trans (by decide : (-2147483648 : Int) ≤ -2147483648) b997.1), (Int.le_trans b997.2 (by decide : (2147483647 : Int) ≤ 2147483647))⟩) (h_place := ⟨(Int.le_trans (by decide : (-2147483648 : Int) ≤ -3000) b989.1), (Int.le_trans b989.2 (by decide : (3002 : Int) ≤ 2147483647))⟩)  (p_0 := by omega) (p_1 := by omega) (p_2 := by omega) (p_3 := by omega) (p_4 := by omega) (p_5 := by omega) (p_6 := by omega) (p_7 := by omega) (p_8 := by omega) (p_9 := by omega) (p_10 := a1008)) (fun o V' hq => ?_)
                            obtain ⟨G1040, A1041, r1042, at2_1043, fk2_1044, op2_1045, nd2_1046, tk2_1047, ec2_1048, rfl, rfl, hW1049, hF1050, hQ1051, b1052, e1053, e1054, e1055, e1056, e1057, e1058, p1059, p1060, p1061, p1062, p1063, p1064, q1065⟩ := hq
                            have hF1066 := Fr_tr hF1036 hF1050 (Fr_sub (by decide)) (Fr_sub (by decide))
                            have hP1067 := Pf_tr hP1037 hQ1051 (by omega)
                            have bat2_1043 : (0 : Int) ≤ at2_1043 ∧ at2_1043 ≤ 3002 := e1053 ▸ hW1049.1 10
                            have bfk2_1044 : (0 : Int) ≤ fk2_1044 ∧ fk2_1044 ≤ 6 := e1054 ▸ hW1049.1 16
                            have bop2_1045 : (-2147483648 : Int) ≤ op2_1045 ∧ op2_1045 ≤ 2147483647 := e1055 ▸ hW1049.1 15
                            have bnd2_1046 : (0 : Int) ≤ nd2_1046 ∧ nd2_1046 ≤ 6999 := e1056 ▸ hW1049.1 31
                            have ztk2_1047 := tz_b tk2_1047
                            have btk2_1047 : (0 : Int) ≤ tk2_1047 ∧ tk2_1047 ≤ 5 := e1057 ▸ hW1049.1 11
                            refine .inr ⟨_, rfl, ?_⟩
                            rcases q1065 with ⟨a1068, a1069, a1070⟩ | ⟨a1071, a1072, a1073, a1074, a1075, a1076⟩
                            · have _q : True := trivial
                              refine jx_rt (v := some (.int (i32 (r1042)))) rfl rfl rfl rfl rfl rfl ?_
                              have z1077 := tz_f (tk2_1047)
                              exact ⟨_, _, _, at2_1043, fk2_1044, op2_1045, nd2_1046, tk2_1047, ec2_1048, rfl, rfl, hW1049, hF1066, hP1067, by omega, (e1053), (e1054), (e1055), (e1056), (e1057), e1058, by omega, by omega, by omega, by omega, by omega, by omega, by first | exact Or.inr (Or.inl (⟨by omega, by omega, by omega⟩))⟩
                            · have _q : True := trivial
                              refine jx_rt (v := some (.int (i32 (r1042)))) rfl rfl rfl rfl rfl rfl ?_
                              have z1078 := tz_f (tk2_1047)
                              exact ⟨_, _, _, at2_1043, fk2_1044, op2_1045, nd2_1046, tk2_1047, ec2_1048, rfl, rfl, hW1049, hF1066, hP1067, by omega, (e1053), (e1054), (e1055), (e1056), (e1057), e1058, by omega, by omega, by omega, by omega, by omega, by omega, by first | exact Or.inr (Or.inr ((⟨by omega, by omega, by omega, a1074, by omega, a1076, by omega⟩)))⟩
                          · have _q := h1023
                            exact absurd h1023 (by omega)
                    · have _q := h988
                      refine jx_ld (pc' := 142) (l' := [(0, .ref 66)]) (st' := [.ref 66]) rfl (jl_aloadn rfl) ?_
                      refine jx_ar (pc' := 143) (st' := [.int (i32 (1)), .ref 66]) rfl rfl rfl rfl ?_
                      refine jx_ld (pc' := 144) (l' := [(0, .ref 66)]) (st' := [.ref 66, .int (i32 (1)), .ref 66]) rfl (jl_aloadn rfl) ?_
                      have b1079 : (-3000 : Int) ≤ G 12 ∧ G 12 ≤ 3002 := hW.1 12
                      refine jr_get (pc' := 147) (i := 12) (v := .int (i32 (G 12))) rfl rfl (by decide) rfl rfl ?_
                      refine jx_vr (pc' := 150) (as := [.int (i32 (1)), .int (i32 (G 12))]) (st := []) rfl rfl rfl rfl ⟨rfl, rfl, Nat.le_of_ble_eq_true rfl⟩ rfl rfl (c_fail (dd := d) (hd := by omega) (hW := hW) (kind := 1) (place := G 12) (fk := fk) (e_fk := show G 16 = fk from (e_fk))  (h_kind := ⟨(by decide), (by decide)⟩) (h_place := ⟨(Int.le_trans (by decide : (-2147483648 : Int) ≤ -3000) b1079.1), (Int.le_trans b1079.2 (by decide : (3002 : Int) ≤ 2147483647))⟩)  (p_0 := by omega) (p_1 := by omega)) (fun o V' hq => ?_)
                      obtain ⟨G1080, A1081, fk2_1082, rfl, rfl, hW1083, hF1084, e1085, p1086, -⟩ := hq
                      have hF1088 := Fr_tr hF0 hF1084 (Fr_sub (by decide)) (Fr_sub (by decide))
                      have hP1089 := Pf_f hP0 hF1084 (by decide)
                      have ec1090 : ecn A1081 (G1080 31) = ec := (ecn_f (hF1084.2 15 rfl) (hF1084.1 31 rfl)).trans e_ec
                      have bfk2_1082 : (0 : Int) ≤ fk2_1082 ∧ fk2_1082 ≤ 6 := e1085 ▸ hW1083.1 16
                      refine .inl ⟨rfl, ?_⟩
                      refine jx_ar (pc' := 151) (st' := [.int (i32 (0))]) rfl rfl rfl rfl ?_
                      refine jx_rt (v := some (.int (i32 (0)))) rfl rfl rfl rfl rfl rfl ?_
                      have z1091 := tz_f (tk0)
                      exact ⟨_, _, _, at0, fk2_1082, op0, nd, tk0, ec, rfl, rfl, hW1083, hF1088, hP1089, by omega, ((hF1084.1 10 rfl).trans (e_at0)), (e1085), ((hF1084.1 15 rfl).trans (e_op0)), ((hF1084.1 31 rfl).trans (e_nd)), ((hF1084.1 11 rfl).trans (e_tk0)), ec1090, by omega, by omega, by omega, by omega, by omega, by omega, by first | exact Or.inr (Or.inl (⟨by omega, by omega, by omega⟩))⟩
                  · have _q := h986
                    exact absurd h986 (by omega)
              · have _q := h365
                exact absurd h365 (by omega)
    · have _q := h8
      exact absurd h8 (by omega)
set_option maxRecDepth 20000 in
set_option maxHeartbeats 4000000 in
theorem c_readRest_w {X : jX} {k : Nat} (hE : REw X k) {dd : Nat} {Vs : Nat → Prop} {sb : Int} {c0 c1 : jC} {G : Nat → Int} {A : Nat → Nat → Int} {T : jH} {x : Int} {lo : Int} {ln le at0 fk op0 nd tk0 ec sy : Int} (hd : 6 * k + 15 ≤ dd) (hW : Wk G A) (e_ln : G 9 = ln) (e_le : A 4 (ln).toNat = le) (e_at0 : G 10 = at0) (e_fk : G 16 = fk) (e_op0 : G 15 = op0) (e_nd : G 31 = nd) (e_tk0 : G 11 = tk0) (e_ec : ecn A (G 31) = ec) (e_sy : G 19 = sy) (i_SV : SV Vs sb G A) (h_x : (-2147483648 : Int) ≤ x ∧ x ≤ 2147483647) (p_0 : 0 ≤ op0) (p_1 : op0 ≤ 9) (p_2 : op0 ≤ 8 ∨ 1 ≤ fk) (p_3 : 9 - op0 ≤ ((k + 1 : Nat) : Int) ∨ 1 ≤ fk) (p_4 : nd ≤ 2 * at0 - tz tk0 + 51) (p_5 : at0 ≤ le) (p_6 : nd ≤ 2 * at0 - tz tk0 + 50 ∨ 1 ≤ fk) (p_7 : 0 ≤ x ∧ x ≤ nd) (p_8 : 0 ≤ lo ∧ lo ≤ nd) (p_9 : fk = 0 → wE A Vs sb (2 * k + 3) (x) (lo) (nd)) : wk X dd 287 [.ref 66, .int (i32 x)] (rV c0 c1 G A T) (fun o V' => ∃ (G' : Nat → Int) (A' : Nat → Nat → Int) (r : Int) (at2 : Int) (fk2 : Int) (op2 : Int) (nd2 : Int) (tk2 : Int) (ec2 : Int), V' = rV c0 c1 G' A' T ∧ o = .inl (some (.int (i32 r))) ∧ Wk G' A' ∧ Fr [10, 11, 12, 13, 14, 15, 16, 17, 18, 31] [15, 16, 17, 18, 19, 20, 21, 22, 24, 28] G A G' A' ∧ Pf nd A A' ∧ ((-2147483648 : Int) ≤ r ∧ r ≤ 2147483647) ∧ G' 10 = at2 ∧ G' 16 = fk2 ∧ G' 15 = op2 ∧ G' 31 = nd2 ∧ G' 11 = tk2 ∧ ecn A' (G' 31) = ec2 ∧ (at0 ≤ at2) ∧ (at2 ≤ le) ∧ (nd ≤ nd2) ∧ (op2 = op0) ∧ (0 ≤ r) ∧ (r ≤ nd2) ∧ (((1 ≤ fk) ∧ (1 ≤ fk2) ∧ (nd2 = nd) ∧ (at2 = at0) ∧ (tk2 = tk0) ∧ (tz tk2 = tz tk0)) ∨ ((fk = 0) ∧ (1 ≤ fk2) ∧ (nd2 - nd ≤ (2 * at2 - tz tk2) - (2 * at0 - tz tk0) + 1)) ∨ ((fk = 0) ∧ (fk2 = 0) ∧ (nd2 - nd ≤ (2 * at2 - tz tk2) - (2 * at0 - tz tk0)) ∧ (wE A' Vs sb (2 * k + 4) (r) (lo) (nd2)) ∧ (nd2 - nd + 5 * (ec2 - ec) ≤ (2 * at2 - tz tk2) - (2 * at0 - tz tk0) + tz tk0 - tz tk2) ∧ (NdM A' (nd) (nd2) (sy))))) := by
  obtain ⟨d, rfl⟩ : ∃ d, dd = d + 1 := ⟨dd - 1, by omega⟩
  refine wk_of (e := jm287) rfl (Nat.le_of_ble_eq_true rfl) ?_
  show wj X d jm287 (0, [(0, .ref 66), (1, .int (i32 (x)))], [], rV c0 c1 G A T) _
  have hF0 : Fr [10, 11, 12, 13, 14, 15, 16, 17, 18, 31] [15, 16, 17, 18, 19, 20, 21, 22, 24, 28] G A G A := Fr_rf
  have hP0 : Pf nd A A := Pf_rf
  have b_ln : (0 : Int) ≤ ln ∧ ln ≤ 3000 := e_ln ▸ hW.1 9
  have b_le : (0 : Int) ≤ le ∧ le ≤ 3000 := e_le ▸ hW.2 4 _
  have b_at0 : (0 : Int) ≤ at0 ∧ at0 ≤ 3002 := e_at0 ▸ hW.1 10
  have b_fk : (0 : Int) ≤ fk ∧ fk ≤ 6 := e_fk ▸ hW.1 16
  have b_op0 : (-2147483648 : Int) ≤ op0 ∧ op0 ≤ 2147483647 := e_op0 ▸ hW.1 15
  have b_nd : (0 : Int) ≤ nd ∧ nd ≤ 6999 := e_nd ▸ hW.1 31
  have z_tk0 := tz_f tk0
  have b_tk0 : (0 : Int) ≤ tk0 ∧ tk0 ≤ 5 := e_tk0 ▸ hW.1 11
  have b_sy : (0 : Int) ≤ sy ∧ sy ≤ 202 := e_sy ▸ hW.1 19
  refine jx_ld (pc' := 1) (l' := [(0, .ref 66), (1, .int (i32 (x)))]) (st' := [.ref 66]) rfl (jl_aloadn rfl) ?_
  refine jx_vr (pc' := 4) (as := []) (st := []) rfl rfl rfl rfl ⟨rfl, rfl, Nat.le_of_ble_eq_true rfl⟩ rfl rfl (c_bad (dd := d) (hd := by omega) (hW := hW)  (fk := fk) (e_fk := show G 16 = fk from (e_fk))    ) (fun o V' hq => ?_)
  obtain ⟨r1, rfl, rfl, b2, q3⟩ := hq
  refine .inr ⟨_, rfl, ?_⟩
  rcases q3 with ⟨rfl, a4⟩ | ⟨rfl, a5⟩
  · have _q : True := trivial
    refine jx_if_eq (pc' := 7) (tg := 11) rfl rfl rfl (by decide) (by decide) (fun h6 => ?_) (fun h6 => ?_)
    · have _q := h6
      exact absurd h6 (by omega)
    · have _q := h6
      refine jx_ar (pc' := 8) (st' := [.int (i32 (0))]) rfl rfl rfl rfl ?_
      refine jx_go (tg := 15) rfl rfl ?_
      refine jx_ld (pc' := 16) (l' := jSto1 [(0, .ref 66), (1, .int (i32 (x)))] 2 (.int (i32 (0)))) (st' := []) rfl rfl ?_
      obtain ⟨L7, eL7⟩ : ∃ q, q = jSto1 [(0, .ref 66), (1, .int (i32 (x)))] 2 (.int (i32 (0))) := ⟨_, rfl⟩
      rw [← eL7]
      have gL7_0 : jGet L7 0 = some (.ref 66) := eL7 ▸ jg_ne (by decide) (rfl : jGet [(0, .ref 66), (1, .int (i32 (x)))] 0 = some (.ref 66)) rfl
      have gL7_1 : jGet L7 1 = some (.int (i32 (x))) := eL7 ▸ jg_ne (by decide) (rfl : jGet [(0, .ref 66), (1, .int (i32 (x)))] 1 = some (.int (i32 (x)))) rfl
      have gL7_2 : jGet L7 2 = some (.int (i32 (0))) := eL7 ▸ jg_eq
      refine jx_ld (pc' := 17) (l' := L7) (st' := [.int (i32 (0))]) rfl (jl_iloadn gL7_2) ?_
      refine jx_if_ne (pc' := 20) (tg := 22) rfl rfl rfl (by decide) (by decide) (fun h8 => ?_) (fun h8 => ?_)
      · have _q := h8
        exact absurd h8 (by omega)
      · have _q := h8
        refine jx_ld (pc' := 21) (l' := L7) (st' := [.int (i32 (x))]) rfl (jl_iloadn gL7_1) ?_
        refine jx_rt (v := some (.int (i32 (x)))) rfl rfl rfl rfl rfl rfl ?_
        have z9 := tz_f (tk0)
        exact ⟨_, _, _, at0, fk, op0, nd, tk0, ec, rfl, rfl, hW, hF0, hP0, by omega, (e_at0), (e_fk), (e_op0), (e_nd), (e_tk0), e_ec, by omega, by omega, by omega, by omega, by omega, by omega, by first | exact Or.inl (⟨by omega, by omega, by omega, by omega, by omega, by omega⟩)⟩
  · have _q : True := trivial
    refine jx_if_eq (pc' := 7) (tg := 11) rfl rfl rfl (by decide) (by decide) (fun h10 => ?_) (fun h10 => ?_)
    · have _q := h10
      refine jx_ld (pc' := 12) (l' := [(0, .ref 66), (1, .int (i32 (x)))]) (st' := [.ref 66]) rfl (jl_aloadn rfl) ?_
      have b11 : (-2147483648 : Int) ≤ G 13 ∧ G 13 ≤ 2147483647 := hW.1 13
      refine jx_vr (pc' := 15) (as := []) (st := []) rfl rfl rfl rfl ⟨rfl, rfl, Nat.le_of_ble_eq_true rfl⟩ rfl rfl (c_operationAt (dd := d) (hd := by omega) (hW := hW)  (tk := tk0) (e_tk := show G 11 = tk0 from (e_tk0)) (tn := G 13) (e_tn := show G 13 = G 13 from rfl)    ) (fun o V' hq => ?_)
      obtain ⟨r12, rfl, rfl, b13, q14⟩ := hq
      refine .inr ⟨_, rfl, ?_⟩
      rcases q14 with rfl | a15
      · have _q : True := trivial
        refine jx_ld (pc' := 16) (l' := jSto1 [(0, .ref 66), (1, .int (i32 (x)))] 2 (.int (i32 (0)))) (st' := []) rfl rfl ?_
        obtain ⟨L16, eL16⟩ : ∃ q, q = jSto1 [(0, .ref 66), (1, .int (i32 (x)))] 2 (.int (i32 (0))) := ⟨_, rfl⟩
        rw [← eL16]
        have gL16_0 : jGet L16 0 = some (.ref 66) := eL16 ▸ jg_ne (by decide) (rfl : jGet [(0, .ref 66), (1, .int (i32 (x)))] 0 = some (.ref 66)) rfl
        have gL16_1 : jGet L16 1 = some (.int (i32 (x))) := eL16 ▸ jg_ne (by decide) (rfl : jGet [(0, .ref 66), (1, .int (i32 (x)))] 1 = some (.int (i32 (x)))) rfl
        have gL16_2 : jGet L16 2 = some (.int (i32 (0))) := eL16 ▸ jg_eq
        refine jx_ld (pc' := 17) (l' := L16) (st' := [.int (i32 (0))]) rfl (jl_iloadn gL16_2) ?_
        refine jx_if_ne (pc' := 20) (tg := 22) rfl rfl rfl (by decide) (by decide) (fun h17 => ?_) (fun h17 => ?_)
        · have _q := h17
          exact absurd h17 (by omega)
        · have _q := h17
          refine jx_ld (pc' := 21) (l' := L16) (st' := [.int (i32 (x))]) rfl (jl_iloadn gL16_1) ?_
          refine jx_rt (v := some (.int (i32 (x)))) rfl rfl rfl rfl rfl rfl ?_
          have z18 := tz_f (tk0)
          exact ⟨_, _, _, at0, fk, op0, nd, tk0, ec, rfl, rfl, hW, hF0, hP0, by omega, (e_at0), (e_fk), (e_op0), (e_nd), (e_tk0), e_ec, by omega, by omega, by omega, by omega, by omega, by omega, by first | exact Or.inr (Or.inr ((⟨by omega, by omega, by omega, (wE_mono (by omega) (by omega) (by omega) (p_9 (by omega))), by omega, (NdM_0 (by omega))⟩)))⟩
      · have _q : True := trivial
        refine jx_ld (pc' := 16) (l' := jSto1 [(0, .ref 66), (1, .int (i32 (x)))] 2 (.int (i32 (r12)))) (st' := []) rfl rfl ?_
        obtain ⟨L19, eL19⟩ : ∃ q, q = jSto1 [(0, .ref 66), (1, .int (i32 (x)))] 2 (.int (i32 (r12))) := ⟨_, rfl⟩
        rw [← eL19]
        have gL19_0 : jGet L19 0 = some (.ref 66) := eL19 ▸ jg_ne (by decide) (rfl : jGet [(0, .ref 66), (1, .int (i32 (x)))] 0 = some (.ref 66)) rfl
        have gL19_1 : jGet L19 1 = some (.int (i32 (x))) := eL19 ▸ jg_ne (by decide) (rfl : jGet [(0, .ref 66), (1, .int (i32 (x)))] 1 = some (.int (i32 (x)))) rfl
        have gL19_2 : jGet L19 2 = some (.int (i32 (r12))) := eL19 ▸ jg_eq
        refine jx_ld (pc' := 17) (l' := L19) (st' := [.int (i32 (r12))]) rfl (jl_iloadn gL19_2) ?_
        refine jx_if_ne (pc' := 20) (tg := 22) rfl rfl rfl (Int.le_trans (by decide : (-2147483648 : Int) ≤ -2147483648) b13.1) (Int.le_trans b13.2 (by decide : (2147483647 : Int) ≤ 2147483647)) (fun h20 => ?_) (fun h20 => ?_)
        · have _q := h20
          refine jx_ld (pc' := 23) (l' := L19) (st' := [.ref 66]) rfl (jl_aloadn gL19_0) ?_
          refine jx_vr (pc' := 26) (as := []) (st := []) rfl rfl rfl rfl ⟨rfl, rfl, Nat.le_of_ble_eq_true rfl⟩ rfl rfl (c_next (dd := d) (hd := by omega) (hW := hW)  (ln := ln) (e_ln := show G 9 = ln from (e_ln)) (le := le) (e_le := show A 4 (ln).toNat = le from (e_le)) (at0 := at0) (e_at0 := show G 10 = at0 from (e_at0))    (p_0 := by omega)) (fun o V' hq => ?_)
          obtain ⟨G21, A22, at2_23, tk2_24, rfl, rfl, hW25, hF26, e27, e28, p29, p30, p31, -⟩ := hq
          have hF33 := Fr_tr hF0 hF26 (Fr_sub (by decide)) (Fr_sub (by decide))
          have hP34 := Pf_f hP0 hF26 (by decide)
          have sf35 : wE A22 Vs sb (2 * k + 3) (x) (lo) (nd) := wE_ag (by omega) (Sg_fr hF26 (by decide)) (Ag_fr hF26 (by decide)) (p_9 (by omega))
          have ec36 : ecn A22 (G21 31) = ec := (ecn_f (hF26.2 15 rfl) (hF26.1 31 rfl)).trans e_ec
          have bat2_23 : (0 : Int) ≤ at2_23 ∧ at2_23 ≤ 3002 := e27 ▸ hW25.1 10
          have ztk2_24 := tz_b tk2_24
          have btk2_24 : (0 : Int) ≤ tk2_24 ∧ tk2_24 ≤ 5 := e28 ▸ hW25.1 11
          refine .inl ⟨rfl, ?_⟩
          have pz37 : at0 + tz tk2_24 ≤ at2_23 := by omega
          refine jx_ld (pc' := 27) (l' := L19) (st' := [.ref 66]) rfl (jl_aloadn gL19_0) ?_
          refine jx_vr (pc' := 30) (as := []) (st := []) rfl rfl rfl rfl ⟨rfl, rfl, Nat.le_of_ble_eq_true rfl⟩ rfl rfl (c_readOperand_w (dd := d) (hE := hE) (hd := by omega) (hW := hW25)  (ln := ln) (e_ln := show G21 9 = ln from ((hF26.1 9 rfl).trans (e_ln))) (le := le) (e_le := show A22 4 (ln).toNat = le from (congrFun (hF26.2 4 rfl) _).trans (e_le)) (at0 := at2_23) (e_at0 := show G21 10 = at2_23 from (e27)) (fk := fk) (e_fk := show G21 16 = fk from ((hF26.1 16 rfl).trans (e_fk))) (op0 := op0) (e_op0 := show G21 15 = op0 from ((hF26.1 15 rfl).trans (e_op0))) (nd := nd) (e_nd := show G21 31 = nd from ((hF26.1 31 rfl).trans (e_nd))) (tk0 := tk2_24) (e_tk0 := show G21 11 = tk2_24 from (e28)) (ec := ec) (e_ec := show ecn A22 (G21 31) = ec from ec36) (sy := sy) (e_sy := show G21 19 = sy from ((hF26.1 19 rfl).trans (e_sy))) (i_SV := (SV_ext ((hF26.1 29 rfl)) ((hF26.2 14 rfl)) i_SV))   (p_0 := by omega) (p_1 := by omega) (p_2 := by omega) (p_3 := by omega) (p_4 := by omega) (p_5 := by omega)) (fun o V' hq => ?_)
          obtain ⟨G38, A39, r40, at2_41, fk2_42, op2_43, nd2_44, tk2_45, ec2_46, rfl, rfl, hW47, hF48, hQ49, b50, e51, e52, e53, e54, e55, e56, p57, p58, p59, p60, p61, p62, q63⟩ := hq
          have hF64 := Fr_tr hF33 hF48 (Fr_sub (by decide)) (Fr_sub (by decide))
          have hP65 := Pf_tr hP34 hQ49 (by omega)
          have sf66 : wE A39 Vs sb (2 * k + 3) (x) (lo) (nd) := wE_ag (by omega) (Sg_fr hF48 (by decide)) (Ag_pf hQ49 (by omega)) sf35
          have bat2_41 : (0 : Int) ≤ at2_41 ∧ at2_41 ≤ 3002 := e51 ▸ hW47.1 10
          have bfk2_42 : (0 : Int) ≤ fk2_42 ∧ fk2_42 ≤ 6 := e52 ▸ hW47.1 16
          have bop2_43 : (-2147483648 : Int) ≤ op2_43 ∧ op2_43 ≤ 2147483647 := e53 ▸ hW47.1 15
          have bnd2_44 : (0 : Int) ≤ nd2_44 ∧ nd2_44 ≤ 6999 := e54 ▸ hW47.1 31
          have ztk2_45 := tz_b tk2_45
          have btk2_45 : (0 : Int) ≤ tk2_45 ∧ tk2_45 ≤ 5 := e55 ▸ hW47.1 11
          refine .inr ⟨_, rfl, ?_⟩
          rcases q63 with ⟨a67, a68, a69, a70, a71, a72⟩ | ⟨a73, a74, a75⟩ | ⟨a76, a77, a78, a79, a80, a81, a82⟩
          · have _q : True := trivial
            exfalso
            omega
          · have _q : True := trivial
            refine jx_ld (pc' := 31) (l' := jSto1 L19 3 (.int (i32 (r40)))) (st' := []) rfl rfl ?_
            obtain ⟨L83, eL83⟩ : ∃ q, q = jSto1 L19 3 (.int (i32 (r40))) := ⟨_, rfl⟩
            rw [← eL83]
            have gL83_0 : jGet L83 0 = some (.ref 66) := eL83 ▸ jg_ne (by decide) gL19_0 rfl
            have gL83_1 : jGet L83 1 = some (.int (i32 (x))) := eL83 ▸ jg_ne (by decide) gL19_1 rfl
            have gL83_2 : jGet L83 2 = some (.int (i32 (r12))) := eL83 ▸ jg_ne (by decide) gL19_2 rfl
            have gL83_3 : jGet L83 3 = some (.int (i32 (r40))) := eL83 ▸ jg_eq
            refine jx_ld (pc' := 32) (l' := L83) (st' := [.ref 66]) rfl (jl_aloadn gL83_0) ?_
            refine jx_ar (pc' := 33) (st' := [.int (i32 (4)), .ref 66]) rfl rfl rfl rfl ?_
            refine jx_ld (pc' := 34) (l' := L83) (st' := [.int (i32 (r12)), .int (i32 (4)), .ref 66]) rfl (jl_iloadn gL83_2) ?_
            refine jx_ld (pc' := 35) (l' := L83) (st' := [.int (i32 (x)), .int (i32 (r12)), .int (i32 (4)), .ref 66]) rfl (jl_iloadn gL83_1) ?_
            refine jx_ld (pc' := 36) (l' := L83) (st' := [.int (i32 (r40)), .int (i32 (x)), .int (i32 (r12)), .int (i32 (4)), .ref 66]) rfl (jl_iloadn gL83_3) ?_
            refine jx_ar (pc' := 37) (st' := [.int (i32 (0)), .int (i32 (r40)), .int (i32 (x)), .int (i32 (r12)), .int (i32 (4)), .ref 66]) rfl rfl rfl rfl ?_
            refine jx_vr (pc' := 40) (as := [.int (i32 (4)), .int (i32 (r12)), .int (i32 (x)), .int (i32 (r40)), .int (i32 (0))]) (st := []) rfl rfl rfl rfl ⟨rfl, rfl, Nat.le_of_ble_eq_true rfl⟩ rfl rfl (c_node_o (dd := d) (hd := by omega) (hW := hW47) (kind := 4) (a := r12) (b := x) (c := r40) (e := 0) (nd := nd2_44) (e_nd := show G38 31 = nd2_44 from (e54)) (ec := ec2_46) (e_ec := show ecn A39 (G38 31) = ec2_46 from e56) (sy := sy) (e_sy := show G38 19 = sy from ((hF48.1 19 rfl).trans ((hF26.1 19 rfl).trans (e_sy))))  (h_kind := ⟨(by decide), (by decide)⟩) (h_a := ⟨(Int.le_trans (by decide : (-2147483648 : Int) ≤ -2147483648) b13.1), (Int.le_trans b13.2 (by decide : (2147483647 : Int) ≤ 2147483647))⟩) (h_b := ⟨(Int.le_trans (by decide : (-2147483648 : Int) ≤ -2147483648) h_x.1), (Int.le_trans h_x.2 (by decide : (2147483647 : Int) ≤ 2147483647))⟩) (h_c := ⟨(Int.le_trans (by decide : (-2147483648 : Int) ≤ -2147483648) b50.1), (Int.le_trans b50.2 (by decide : (2147483647 : Int) ≤ 2147483647))⟩) (h_e := ⟨(by decide), (by decide)⟩)  (p_0 := by omega) (p_1 := by omega) (p_2 := by omega)) (fun o V' hq => ?_)
            obtain ⟨G84, A85, nd2_86, ec2_87, rfl, rfl, hW88, hF89, hQ90, e91, e92, p93, p94, p95, p96, -⟩ := hq
            have hF98 := Fr_tr hF64 hF89 (Fr_sub (by decide)) (Fr_sub (by decide))
            have hP99 := Pf_tr hP65 hQ90 (by omega)
            have sf100 : wE A85 Vs sb (2 * k + 3) (x) (lo) (nd) := wE_ag (by omega) (Sg_fr hF89 (by decide)) (Ag_pf hQ90 (by omega)) sf66
            have bnd2_86 : (0 : Int) ≤ nd2_86 ∧ nd2_86 ≤ 6999 := e91 ▸ hW88.1 31
            refine .inr ⟨_, rfl, ?_⟩
            refine jx_rt (v := some (.int (i32 (nd2_44)))) rfl rfl rfl rfl rfl rfl ?_
            have z101 := tz_f (tk2_45)
            exact ⟨_, _, _, at2_41, fk2_42, op2_43, nd2_86, tk2_45, ec2_87, rfl, rfl, hW88, hF98, hP99, by omega, ((hF89.1 10 rfl).trans (e51)), ((hF89.1 16 rfl).trans (e52)), ((hF89.1 15 rfl).trans (e53)), (e91), ((hF89.1 11 rfl).trans (e55)), e92, by omega, by omega, by omega, by omega, by omega, by omega, by first | exact Or.inr (Or.inl (⟨by omega, by omega, by omega⟩))⟩
          · have _q : True := trivial
            refine jx_ld (pc' := 31) (l' := jSto1 L19 3 (.int (i32 (r40)))) (st' := []) rfl rfl ?_
            obtain ⟨L102, eL102⟩ : ∃ q, q = jSto1 L19 3 (.int (i32 (r40))) := ⟨_, rfl⟩
            rw [← eL102]
            have gL102_0 : jGet L102 0 = some (.ref 66) := eL102 ▸ jg_ne (by decide) gL19_0 rfl
            have gL102_1 : jGet L102 1 = some (.int (i32 (x))) := eL102 ▸ jg_ne (by decide) gL19_1 rfl
            have gL102_2 : jGet L102 2 = some (.int (i32 (r12))) := eL102 ▸ jg_ne (by decide) gL19_2 rfl
            have gL102_3 : jGet L102 3 = some (.int (i32 (r40))) := eL102 ▸ jg_eq
            refine jx_ld (pc' := 32) (l' := L102) (st' := [.ref 66]) rfl (jl_aloadn gL102_0) ?_
            refine jx_ar (pc' := 33) (st' := [.int (i32 (4)), .ref 66]) rfl rfl rfl rfl ?_
            refine jx_ld (pc' := 34) (l' := L102) (st' := [.int (i32 (r12)), .int (i32 (4)), .ref 66]) rfl (jl_iloadn gL102_2) ?_
            refine jx_ld (pc' := 35) (l' := L102) (st' := [.int (i32 (x)), .int (i32 (r12)), .int (i32 (4)), .ref 66]) rfl (jl_iloadn gL102_1) ?_
            refine jx_ld (pc' := 36) (l' := L102) (st' := [.int (i32 (r40)), .int (i32 (x)), .int (i32 (r12)), .int (i32 (4)), .ref 66]) rfl (jl_iloadn gL102_3) ?_
            refine jx_ar (pc' := 37) (st' := [.int (i32 (0)), .int (i32 (r40)), .int (i32 (x)), .int (i32 (r12)), .int (i32 (4)), .ref 66]) rfl rfl rfl rfl ?_
            refine jx_vr (pc' := 40) (as := [.int (i32 (4)), .int (i32 (r12)), .int (i32 (x)), .int (i32 (r40)), .int (i32 (0))]) (st := []) rfl rfl rfl rfl ⟨rfl, rfl, Nat.le_of_ble_eq_true rfl⟩ rfl rfl (c_node_o (dd := d) (hd := by omega) (hW := hW47) (kind := 4) (a := r12) (b := x) (c := r40) (e := 0) (nd := nd2_44) (e_nd := show G38 31 = nd2_44 from (e54)) (ec := ec2_46) (e_ec := show ecn A39 (G38 31) = ec2_46 from e56) (sy := sy) (e_sy := show G38 19 = sy from ((hF48.1 19 rfl).trans ((hF26.1 19 rfl).trans (e_sy))))  (h_kind := ⟨(by decide), (by decide)⟩) (h_a := ⟨(Int.le_trans (by decide : (-2147483648 : Int) ≤ -2147483648) b13.1), (Int.le_trans b13.2 (by decide : (2147483647 : Int) ≤ 2147483647))⟩) (h_b := ⟨(Int.le_trans (by decide : (-2147483648 : Int) ≤ -2147483648) h_x.1), (Int.le_trans h_x.2 (by decide : (2147483647 : Int) ≤ 2147483647))⟩) (h_c := ⟨(Int.le_trans (by decide : (-2147483648 : Int) ≤ -2147483648) b50.1), (Int.le_trans b50.2 (by decide : (2147483647 : Int) ≤ 2147483647))⟩) (h_e := ⟨(by decide), (by decide)⟩)  (p_0 := by omega) (p_1 := by omega) (p_2 := by omega)) (fun o V' hq => ?_)
            obtain ⟨G103, A104, nd2_105, ec2_106, rfl, rfl, hW107, hF108, hQ109, e110, e111, p112, p113, p114, p115, -⟩ := hq
            have hF117 := Fr_tr hF64 hF108 (Fr_sub (by decide)) (Fr_sub (by decide))
            have hP118 := Pf_tr hP65 hQ109 (by omega)
            have sf119 : wE A104 Vs sb (2 * k + 3) (x) (lo) (nd) := wE_ag (by omega) (Sg_fr hF108 (by decide)) (Ag_pf hQ109 (by omega)) sf66
            have sf120 : wE A104 Vs sb (2 * k + 3) (r40) (nd) (nd2_44) := wE_ag (by omega) (Sg_fr hF108 (by decide)) (Ag_pf hQ109 (by omega)) a79
            have sf121 : NdM A104 (nd) (nd2_44) (sy) := NdM_pf hQ109 (by omega) (by omega) a81
            have bnd2_105 : (0 : Int) ≤ nd2_105 ∧ nd2_105 ≤ 6999 := e110 ▸ hW107.1 31
            refine .inr ⟨_, rfl, ?_⟩
            refine jx_rt (v := some (.int (i32 (nd2_44)))) rfl rfl rfl rfl rfl rfl ?_
            have z122 := tz_f (tk2_45)
            exact ⟨_, _, _, at2_41, fk2_42, op2_43, nd2_105, tk2_45, ec2_106, rfl, rfl, hW107, hF117, hP118, by omega, ((hF108.1 10 rfl).trans (e51)), ((hF108.1 16 rfl).trans (e52)), ((hF108.1 15 rfl).trans (e53)), (e110), ((hF108.1 11 rfl).trans (e55)), e111, by omega, by omega, by omega, by omega, by omega, by omega, by first | exact Or.inr (Or.inr ((⟨by omega, by omega, by omega, (wE_two p114 (by omega) (by omega) (w := nd) (by omega) (by omega) (wE_mono (by omega) (by omega) (by omega) sf119) (wE_mono (by omega) (by omega) (by omega) sf120)), by omega, (NdM_w (NdM_app (sy := sy) sf121 p115 (by omega) (by omega) (by omega)) (by omega) (by omega) (by omega))⟩)))⟩
        · have _q := h20
          refine jx_ld (pc' := 21) (l' := L19) (st' := [.int (i32 (x))]) rfl (jl_iloadn gL19_1) ?_
          refine jx_rt (v := some (.int (i32 (x)))) rfl rfl rfl rfl rfl rfl ?_
          have z123 := tz_f (tk0)
          exact ⟨_, _, _, at0, fk, op0, nd, tk0, ec, rfl, rfl, hW, hF0, hP0, by omega, (e_at0), (e_fk), (e_op0), (e_nd), (e_tk0), e_ec, by omega, by omega, by omega, by omega, by omega, by omega, by first | exact Or.inr (Or.inr ((⟨by omega, by omega, by omega, (wE_mono (by omega) (by omega) (by omega) (p_9 (by omega))), by omega, (NdM_0 (by omega))⟩)))⟩
    · have _q := h10
      exact absurd h10 (by omega)
set_option maxRecDepth 20000 in
set_option maxHeartbeats 4000000 in
theorem c_readE_s_w {X : jX} {k : Nat} (hE : REw X k) {dd : Nat} {Vs : Nat → Prop} {sb : Int} {c0 c1 : jC} {G : Nat → Int} {A : Nat → Nat → Int} {T : jH} {ln le at0 fk op0 nd tk0 ec sy : Int} (hd : 6 * (k + 1) + 10 ≤ dd) (hW : Wk G A) (e_ln : G 9 = ln) (e_le : A 4 (ln).toNat = le) (e_at0 : G 10 = at0) (e_fk : G 16 = fk) (e_op0 : G 15 = op0) (e_nd : G 31 = nd) (e_tk0 : G 11 = tk0) (e_ec : ecn A (G 31) = ec) (e_sy : G 19 = sy) (i_SV : SV Vs sb G A) (p_0 : 0 ≤ op0) (p_1 : op0 ≤ 9) (p_2 : op0 ≤ 8 ∨ 1 ≤ fk) (p_3 : 9 - op0 ≤ ((k + 1 : Nat) : Int) ∨ 1 ≤ fk) (p_4 : nd ≤ 2 * at0 - tz tk0 + 50) (p_5 : at0 ≤ le) : wk X dd 286 [.ref 66] (rV c0 c1 G A T) (fun o V' => ∃ (G' : Nat → Int) (A' : Nat → Nat → Int) (r : Int) (at2 : Int) (fk2 : Int) (op2 : Int) (nd2 : Int) (tk2 : Int) (ec2 : Int), V' = rV c0 c1 G' A' T ∧ o = .inl (some (.int (i32 r))) ∧ Wk G' A' ∧ Fr [10, 11, 12, 13, 14, 15, 16, 17, 18, 31] [15, 16, 17, 18, 19, 20, 21, 22, 24, 28] G A G' A' ∧ Pf nd A A' ∧ ((-2147483648 : Int) ≤ r ∧ r ≤ 2147483647) ∧ G' 10 = at2 ∧ G' 16 = fk2 ∧ G' 15 = op2 ∧ G' 31 = nd2 ∧ G' 11 = tk2 ∧ ecn A' (G' 31) = ec2 ∧ (at0 ≤ at2) ∧ (at2 ≤ le) ∧ (nd ≤ nd2) ∧ (op2 = op0) ∧ (0 ≤ r) ∧ (r ≤ nd2) ∧ (((1 ≤ fk) ∧ (1 ≤ fk2) ∧ (nd2 = nd) ∧ (at2 = at0) ∧ (tk2 = tk0) ∧ (tz tk2 = tz tk0)) ∨ ((fk = 0) ∧ (1 ≤ fk2) ∧ (nd2 - nd ≤ (2 * at2 - tz tk2) - (2 * at0 - tz tk0) + 1)) ∨ ((fk = 0) ∧ (fk2 = 0) ∧ (nd2 - nd ≤ (2 * at2 - tz tk2) - (2 * at0 - tz tk0)) ∧ (wE A' Vs sb (2 * (k + 1) + 2) (r) (nd) (nd2)) ∧ (nd2 - nd + 5 * (ec2 - ec) ≤ (2 * at2 - tz tk2) - (2 * at0 - tz tk0) - tz tk2) ∧ (NdM A' (nd) (nd2) (sy)) ∧ (tz tk0 = 1)))) := by
  obtain ⟨d, rfl⟩ : ∃ d, dd = d + 1 := ⟨dd - 1, by omega⟩
  refine wk_of (e := jm286) rfl (Nat.le_of_ble_eq_true rfl) ?_
  show wj X d jm286 (0, [(0, .ref 66)], [], rV c0 c1 G A T) _
  have hF0 : Fr [10, 11, 12, 13, 14, 15, 16, 17, 18, 31] [15, 16, 17, 18, 19, 20, 21, 22, 24, 28] G A G A := Fr_rf
  have hP0 : Pf nd A A := Pf_rf
  have b_ln : (0 : Int) ≤ ln ∧ ln ≤ 3000 := e_ln ▸ hW.1 9
  have b_le : (0 : Int) ≤ le ∧ le ≤ 3000 := e_le ▸ hW.2 4 _
  have b_at0 : (0 : Int) ≤ at0 ∧ at0 ≤ 3002 := e_at0 ▸ hW.1 10
  have b_fk : (0 : Int) ≤ fk ∧ fk ≤ 6 := e_fk ▸ hW.1 16
  have b_op0 : (-2147483648 : Int) ≤ op0 ∧ op0 ≤ 2147483647 := e_op0 ▸ hW.1 15
  have b_nd : (0 : Int) ≤ nd ∧ nd ≤ 6999 := e_nd ▸ hW.1 31
  have z_tk0 := tz_f tk0
  have b_tk0 : (0 : Int) ≤ tk0 ∧ tk0 ≤ 5 := e_tk0 ▸ hW.1 11
  have b_sy : (0 : Int) ≤ sy ∧ sy ≤ 202 := e_sy ▸ hW.1 19
  refine jx_ld (pc' := 1) (l' := [(0, .ref 66)]) (st' := [.ref 66]) rfl (jl_aloadn rfl) ?_
  refine jx_vr (pc' := 4) (as := []) (st := []) rfl rfl rfl rfl ⟨rfl, rfl, Nat.le_of_ble_eq_true rfl⟩ rfl rfl (c_bad (dd := d) (hd := by omega) (hW := hW)  (fk := fk) (e_fk := show G 16 = fk from (e_fk))    ) (fun o V' hq => ?_)
  obtain ⟨r1, rfl, rfl, b2, q3⟩ := hq
  refine .inr ⟨_, rfl, ?_⟩
  rcases q3 with ⟨rfl, a4⟩ | ⟨rfl, a5⟩
  · have _q : True := trivial
    refine jx_if_eq (pc' := 7) (tg := 9) rfl rfl rfl (by decide) (by decide) (fun h6 => ?_) (fun h6 => ?_)
    · have _q := h6
      exact absurd h6 (by omega)
    · have _q := h6
      refine jx_ar (pc' := 8) (st' := [.int (i32 (0))]) rfl rfl rfl rfl ?_
      refine jx_rt (v := some (.int (i32 (0)))) rfl rfl rfl rfl rfl rfl ?_
      have z7 := tz_f (tk0)
      exact ⟨_, _, _, at0, fk, op0, nd, tk0, ec, rfl, rfl, hW, hF0, hP0, by omega, (e_at0), (e_fk), (e_op0), (e_nd), (e_tk0), e_ec, by omega, by omega, by omega, by omega, by omega, by omega, by first | exact Or.inl (⟨by omega, by omega, by omega, by omega, by omega, by omega⟩)⟩
  · have _q : True := trivial
    refine jx_if_eq (pc' := 7) (tg := 9) rfl rfl rfl (by decide) (by decide) (fun h8 => ?_) (fun h8 => ?_)
    · have _q := h8
      refine jx_ld (pc' := 10) (l' := [(0, .ref 66)]) (st' := [.ref 66]) rfl (jl_aloadn rfl) ?_
      refine jx_ar (pc' := 12) (st' := [.int (i32 (45)), .ref 66]) rfl rfl rfl rfl ?_
      have b9 : (-2147483648 : Int) ≤ G 13 ∧ G 13 ≤ 2147483647 := hW.1 13
      refine jx_vr (pc' := 15) (as := [.int (i32 (45))]) (st := []) rfl rfl rfl rfl ⟨rfl, rfl, Nat.le_of_ble_eq_true rfl⟩ rfl rfl (c_is (dd := d) (hd := by omega) (hW := hW) (k := 45) (tk := tk0) (e_tk := show G 11 = tk0 from (e_tk0)) (tn := G 13) (e_tn := show G 13 = G 13 from rfl)  (h_k := ⟨(by decide), (by decide)⟩)  ) (fun o V' hq => ?_)
      obtain ⟨r10, rfl, rfl, b11, q12⟩ := hq
      refine .inr ⟨_, rfl, ?_⟩
      rcases q12 with ⟨rfl, a13, a14, a15⟩ | rfl
      · have _q : True := trivial
        refine jx_if_ne (pc' := 18) (tg := 27) rfl rfl rfl (by decide) (by decide) (fun h16 => ?_) (fun h16 => ?_)
        · have _q := h16
          refine jx_ld (pc' := 28) (l' := [(0, .ref 66)]) (st' := [.ref 66]) rfl (jl_aloadn rfl) ?_
          refine jx_ar (pc' := 30) (st' := [.int (i32 (45)), .ref 66]) rfl rfl rfl rfl ?_
          refine jx_vr (pc' := 33) (as := [.int (i32 (45))]) (st := []) rfl rfl rfl rfl ⟨rfl, rfl, Nat.le_of_ble_eq_true rfl⟩ rfl rfl (c_is (dd := d) (hd := by omega) (hW := hW) (k := 45) (tk := tk0) (e_tk := show G 11 = tk0 from (e_tk0)) (tn := G 13) (e_tn := show G 13 = G 13 from rfl)  (h_k := ⟨(by decide), (by decide)⟩)  ) (fun o V' hq => ?_)
          obtain ⟨r17, rfl, rfl, b18, q19⟩ := hq
          refine .inr ⟨_, rfl, ?_⟩
          rcases q19 with ⟨rfl, a20, a21, a22⟩ | rfl
          · have _q : True := trivial
            refine jx_if_eq (pc' := 36) (tg := 40) rfl rfl rfl (by decide) (by decide) (fun h23 => ?_) (fun h23 => ?_)
            · have _q := h23
              exact absurd h23 (by omega)
            · have _q := h23
              refine jx_ar (pc' := 37) (st' := [.int (i32 (5))]) rfl rfl rfl rfl ?_
              refine jx_go (tg := 42) rfl rfl ?_
              refine jx_ld (pc' := 43) (l' := jSto1 [(0, .ref 66)] 1 (.int (i32 (5)))) (st' := []) rfl rfl ?_
              obtain ⟨L24, eL24⟩ : ∃ q, q = jSto1 [(0, .ref 66)] 1 (.int (i32 (5))) := ⟨_, rfl⟩
              rw [← eL24]
              have gL24_0 : jGet L24 0 = some (.ref 66) := eL24 ▸ jg_ne (by decide) (rfl : jGet [(0, .ref 66)] 0 = some (.ref 66)) rfl
              have gL24_1 : jGet L24 1 = some (.int (i32 (5))) := eL24 ▸ jg_eq
              refine jx_ld (pc' := 44) (l' := L24) (st' := [.ref 66]) rfl (jl_aloadn gL24_0) ?_
              refine jx_vr (pc' := 47) (as := []) (st := []) rfl rfl rfl rfl ⟨rfl, rfl, Nat.le_of_ble_eq_true rfl⟩ rfl rfl (c_next (dd := d) (hd := by omega) (hW := hW)  (ln := ln) (e_ln := show G 9 = ln from (e_ln)) (le := le) (e_le := show A 4 (ln).toNat = le from (e_le)) (at0 := at0) (e_at0 := show G 10 = at0 from (e_at0))    (p_0 := by omega)) (fun o V' hq => ?_)
              obtain ⟨G25, A26, at2_27, tk2_28, rfl, rfl, hW29, hF30, e31, e32, p33, p34, p35, -⟩ := hq
              have hF37 := Fr_tr hF0 hF30 (Fr_sub (by decide)) (Fr_sub (by decide))
              have hP38 := Pf_f hP0 hF30 (by decide)
              have ec39 : ecn A26 (G25 31) = ec := (ecn_f (hF30.2 15 rfl) (hF30.1 31 rfl)).trans e_ec
              have bat2_27 : (0 : Int) ≤ at2_27 ∧ at2_27 ≤ 3002 := e31 ▸ hW29.1 10
              have ztk2_28 := tz_b tk2_28
              have btk2_28 : (0 : Int) ≤ tk2_28 ∧ tk2_28 ≤ 5 := e32 ▸ hW29.1 11
              refine .inl ⟨rfl, ?_⟩
              have pz40 : at0 + tz tk2_28 ≤ at2_27 := by omega
              refine jx_ld (pc' := 48) (l' := L24) (st' := [.ref 66]) rfl (jl_aloadn gL24_0) ?_
              refine jx_vr (pc' := 51) (as := []) (st := []) rfl rfl rfl rfl ⟨rfl, rfl, Nat.le_of_ble_eq_true rfl⟩ rfl rfl (c_readOperand_w (dd := d) (hE := hE) (hd := by omega) (hW := hW29)  (ln := ln) (e_ln := show G25 9 = ln from ((hF30.1 9 rfl).trans (e_ln))) (le := le) (e_le := show A26 4 (ln).toNat = le from (congrFun (hF30.2 4 rfl) _).trans (e_le)) (at0 := at2_27) (e_at0 := show G25 10 = at2_27 from (e31)) (fk := fk) (e_fk := show G25 16 = fk from ((hF30.1 16 rfl).trans (e_fk))) (op0 := op0) (e_op0 := show G25 15 = op0 from ((hF30.1 15 rfl).trans (e_op0))) (nd := nd) (e_nd := show G25 31 = nd from ((hF30.1 31 rfl).trans (e_nd))) (tk0 := tk2_28) (e_tk0 := show G25 11 = tk2_28 from (e32)) (ec := ec) (e_ec := show ecn A26 (G25 31) = ec from ec39) (sy := sy) (e_sy := show G25 19 = sy from ((hF30.1 19 rfl).trans (e_sy))) (i_SV := (SV_ext ((hF30.1 29 rfl)) ((hF30.2 14 rfl)) i_SV))   (p_0 := by omega) (p_1 := by omega) (p_2 := by omega) (p_3 := by omega) (p_4 := by omega) (p_5 := by omega)) (fun o V' hq => ?_)
              obtain ⟨G41, A42, r43, at2_44, fk2_45, op2_46, nd2_47, tk2_48, ec2_49, rfl, rfl, hW50, hF51, hQ52, b53, e54, e55, e56, e57, e58, e59, p60, p61, p62, p63, p64, p65, q66⟩ := hq
              have hF67 := Fr_tr hF37 hF51 (Fr_sub (by decide)) (Fr_sub (by decide))
              have hP68 := Pf_tr hP38 hQ52 (by omega)
              have bat2_44 : (0 : Int) ≤ at2_44 ∧ at2_44 ≤ 3002 := e54 ▸ hW50.1 10
              have bfk2_45 : (0 : Int) ≤ fk2_45 ∧ fk2_45 ≤ 6 := e55 ▸ hW50.1 16
              have bop2_46 : (-2147483648 : Int) ≤ op2_46 ∧ op2_46 ≤ 2147483647 := e56 ▸ hW50.1 15
              have bnd2_47 : (0 : Int) ≤ nd2_47 ∧ nd2_47 ≤ 6999 := e57 ▸ hW50.1 31
              have ztk2_48 := tz_b tk2_48
              have btk2_48 : (0 : Int) ≤ tk2_48 ∧ tk2_48 ≤ 5 := e58 ▸ hW50.1 11
              refine .inr ⟨_, rfl, ?_⟩
              rcases q66 with ⟨a69, a70, a71, a72, a73, a74⟩ | ⟨a75, a76, a77⟩ | ⟨a78, a79, a80, a81, a82, a83, a84⟩
              · have _q : True := trivial
                exfalso
                omega
              · have _q : True := trivial
                refine jx_ld (pc' := 52) (l' := jSto1 L24 2 (.int (i32 (r43)))) (st' := []) rfl rfl ?_
                obtain ⟨L85, eL85⟩ : ∃ q, q = jSto1 L24 2 (.int (i32 (r43))) := ⟨_, rfl⟩
                rw [← eL85]
                have gL85_0 : jGet L85 0 = some (.ref 66) := eL85 ▸ jg_ne (by decide) gL24_0 rfl
                have gL85_1 : jGet L85 1 = some (.int (i32 (5))) := eL85 ▸ jg_ne (by decide) gL24_1 rfl
                have gL85_2 : jGet L85 2 = some (.int (i32 (r43))) := eL85 ▸ jg_eq
                refine jx_ld (pc' := 53) (l' := L85) (st' := [.ref 66]) rfl (jl_aloadn gL85_0) ?_
                refine jx_ld (pc' := 54) (l' := L85) (st' := [.int (i32 (5)), .ref 66]) rfl (jl_iloadn gL85_1) ?_
                refine jx_ld (pc' := 55) (l' := L85) (st' := [.int (i32 (r43)), .int (i32 (5)), .ref 66]) rfl (jl_iloadn gL85_2) ?_
                refine jx_ar (pc' := 56) (st' := [.int (i32 (0)), .int (i32 (r43)), .int (i32 (5)), .ref 66]) rfl rfl rfl rfl ?_
                refine jx_ar (pc' := 57) (st' := [.int (i32 (0)), .int (i32 (0)), .int (i32 (r43)), .int (i32 (5)), .ref 66]) rfl rfl rfl rfl ?_
                refine jx_ar (pc' := 58) (st' := [.int (i32 (0)), .int (i32 (0)), .int (i32 (0)), .int (i32 (r43)), .int (i32 (5)), .ref 66]) rfl rfl rfl rfl ?_
                refine jx_vr (pc' := 61) (as := [.int (i32 (5)), .int (i32 (r43)), .int (i32 (0)), .int (i32 (0)), .int (i32 (0))]) (st := []) rfl rfl rfl rfl ⟨rfl, rfl, Nat.le_of_ble_eq_true rfl⟩ rfl rfl (c_node_o (dd := d) (hd := by omega) (hW := hW50) (kind := 5) (a := r43) (b := 0) (c := 0) (e := 0) (nd := nd2_47) (e_nd := show G41 31 = nd2_47 from (e57)) (ec := ec2_49) (e_ec := show ecn A42 (G41 31) = ec2_49 from e59) (sy := sy) (e_sy := show G41 19 = sy from ((hF51.1 19 rfl).trans ((hF30.1 19 rfl).trans (e_sy))))  (h_kind := ⟨(by decide), (by decide)⟩) (h_a := ⟨(Int.le_trans (by decide : (-2147483648 : Int) ≤ -2147483648) b53.1), (Int.le_trans b53.2 (by decide : (2147483647 : Int) ≤ 2147483647))⟩) (h_b := ⟨(by decide), (by decide)⟩) (h_c := ⟨(by decide), (by decide)⟩) (h_e := ⟨(by decide), (by decide)⟩)  (p_0 := by omega) (p_1 := by omega) (p_2 := by omega)) (fun o V' hq => ?_)
                obtain ⟨G86, A87, nd2_88, ec2_89, rfl, rfl, hW90, hF91, hQ92, e93, e94, p95, p96, p97, p98, -⟩ := hq
                have hF100 := Fr_tr hF67 hF91 (Fr_sub (by decide)) (Fr_sub (by decide))
                have hP101 := Pf_tr hP68 hQ92 (by omega)
                have bnd2_88 : (0 : Int) ≤ nd2_88 ∧ nd2_88 ≤ 6999 := e93 ▸ hW90.1 31
                refine .inr ⟨_, rfl, ?_⟩
                refine jx_rt (v := some (.int (i32 (nd2_47)))) rfl rfl rfl rfl rfl rfl ?_
                have z102 := tz_f (tk2_48)
                exact ⟨_, _, _, at2_44, fk2_45, op2_46, nd2_88, tk2_48, ec2_89, rfl, rfl, hW90, hF100, hP101, by omega, ((hF91.1 10 rfl).trans (e54)), ((hF91.1 16 rfl).trans (e55)), ((hF91.1 15 rfl).trans (e56)), (e93), ((hF91.1 11 rfl).trans (e58)), e94, by omega, by omega, by omega, by omega, by omega, by omega, by first | exact Or.inr (Or.inl (⟨by omega, by omega, by omega⟩))⟩
              · have _q : True := trivial
                refine jx_ld (pc' := 52) (l' := jSto1 L24 2 (.int (i32 (r43)))) (st' := []) rfl rfl ?_
                obtain ⟨L103, eL103⟩ : ∃ q, q = jSto1 L24 2 (.int (i32 (r43))) := ⟨_, rfl⟩
                rw [← eL103]
                have gL103_0 : jGet L103 0 = some (.ref 66) := eL103 ▸ jg_ne (by decide) gL24_0 rfl
                have gL103_1 : jGet L103 1 = some (.int (i32 (5))) := eL103 ▸ jg_ne (by decide) gL24_1 rfl
                have gL103_2 : jGet L103 2 = some (.int (i32 (r43))) := eL103 ▸ jg_eq
                refine jx_ld (pc' := 53) (l' := L103) (st' := [.ref 66]) rfl (jl_aloadn gL103_0) ?_
                refine jx_ld (pc' := 54) (l' := L103) (st' := [.int (i32 (5)), .ref 66]) rfl (jl_iloadn gL103_1) ?_
                refine jx_ld (pc' := 55) (l' := L103) (st' := [.int (i32 (r43)), .int (i32 (5)), .ref 66]) rfl (jl_iloadn gL103_2) ?_
                refine jx_ar (pc' := 56) (st' := [.int (i32 (0)), .int (i32 (r43)), .int (i32 (5)), .ref 66]) rfl rfl rfl rfl ?_
                refine jx_ar (pc' := 57) (st' := [.int (i32 (0)), .int (i32 (0)), .int (i32 (r43)), .int (i32 (5)), .ref 66]) rfl rfl rfl rfl ?_
                refine jx_ar (pc' := 58) (st' := [.int (i32 (0)), .int (i32 (0)), .int (i32 (0)), .int (i32 (r43)), .int (i32 (5)), .ref 66]) rfl rfl rfl rfl ?_
                refine jx_vr (pc' := 61) (as := [.int (i32 (5)), .int (i32 (r43)), .int (i32 (0)), .int (i32 (0)), .int (i32 (0))]) (st := []) rfl rfl rfl rfl ⟨rfl, rfl, Nat.le_of_ble_eq_true rfl⟩ rfl rfl (c_node_o (dd := d) (hd := by omega) (hW := hW50) (kind := 5) (a := r43) (b := 0) (c := 0) (e := 0) (nd := nd2_47) (e_nd := show G41 31 = nd2_47 from (e57)) (ec := ec2_49) (e_ec := show ecn A42 (G41 31) = ec2_49 from e59) (sy := sy) (e_sy := show G41 19 = sy from ((hF51.1 19 rfl).trans ((hF30.1 19 rfl).trans (e_sy))))  (h_kind := ⟨(by decide), (by decide)⟩) (h_a := ⟨(Int.le_trans (by decide : (-2147483648 : Int) ≤ -2147483648) b53.1), (Int.le_trans b53.2 (by decide : (2147483647 : Int) ≤ 2147483647))⟩) (h_b := ⟨(by decide), (by decide)⟩) (h_c := ⟨(by decide), (by decide)⟩) (h_e := ⟨(by decide), (by decide)⟩)  (p_0 := by omega) (p_1 := by omega) (p_2 := by omega)) (fun o V' hq => ?_)
                obtain ⟨G104, A105, nd2_106, ec2_107, rfl, rfl, hW108, hF109, hQ110, e111, e112, p113, p114, p115, p116, -⟩ := hq
                have hF118 := Fr_tr hF67 hF109 (Fr_sub (by decide)) (Fr_sub (by decide))
                have hP119 := Pf_tr hP68 hQ110 (by omega)
                have sf120 : wE A105 Vs sb (2 * k + 3) (r43) (nd) (nd2_47) := wE_ag (by omega) (Sg_fr hF109 (by decide)) (Ag_pf hQ110 (by omega)) a81
                have sf121 : NdM A105 (nd) (nd2_47) (sy) := NdM_pf hQ110 (by omega) (by omega) a83
                have bnd2_106 : (0 : Int) ≤ nd2_106 ∧ nd2_106 ≤ 6999 := e111 ▸ hW108.1 31
                refine .inr ⟨_, rfl, ?_⟩
                refine jx_rt (v := some (.int (i32 (nd2_47)))) rfl rfl rfl rfl rfl rfl ?_
                have z122 := tz_f (tk2_48)
                exact ⟨_, _, _, at2_44, fk2_45, op2_46, nd2_106, tk2_48, ec2_107, rfl, rfl, hW108, hF118, hP119, by omega, ((hF109.1 10 rfl).trans (e54)), ((hF109.1 16 rfl).trans (e55)), ((hF109.1 15 rfl).trans (e56)), (e111), ((hF109.1 11 rfl).trans (e58)), e112, by omega, by omega, by omega, by omega, by omega, by omega, by first | exact Or.inr (Or.inr ((⟨by omega, by omega, by omega, (wE_one p115 (by omega) (by omega) (by omega) (wE_mono (by omega) (by omega) (by omega) sf120)), by omega, (NdM_w (NdM_app (sy := sy) sf121 p116 (by omega) (by omega) (by omega)) (by omega) (by omega) (by omega)), by omega⟩)))⟩
          · have _q : True := trivial
            refine jx_if_eq (pc' := 36) (tg := 40) rfl rfl rfl (by decide) (by decide) (fun h123 => ?_) (fun h123 => ?_)
            · have _q := h123
              refine jx_ar (pc' := 42) (st' := [.int (i32 (6))]) rfl rfl rfl rfl ?_
              refine jx_ld (pc' := 43) (l' := jSto1 [(0, .ref 66)] 1 (.int (i32 (6)))) (st' := []) rfl rfl ?_
              obtain ⟨L124, eL124⟩ : ∃ q, q = jSto1 [(0, .ref 66)] 1 (.int (i32 (6))) := ⟨_, rfl⟩
              rw [← eL124]
              have gL124_0 : jGet L124 0 = some (.ref 66) := eL124 ▸ jg_ne (by decide) (rfl : jGet [(0, .ref 66)] 0 = some (.ref 66)) rfl
              have gL124_1 : jGet L124 1 = some (.int (i32 (6))) := eL124 ▸ jg_eq
              refine jx_ld (pc' := 44) (l' := L124) (st' := [.ref 66]) rfl (jl_aloadn gL124_0) ?_
              refine jx_vr (pc' := 47) (as := []) (st := []) rfl rfl rfl rfl ⟨rfl, rfl, Nat.le_of_ble_eq_true rfl⟩ rfl rfl (c_next (dd := d) (hd := by omega) (hW := hW)  (ln := ln) (e_ln := show G 9 = ln from (e_ln)) (le := le) (e_le := show A 4 (ln).toNat = le from (e_le)) (at0 := at0) (e_at0 := show G 10 = at0 from (e_at0))    (p_0 := by omega)) (fun o V' hq => ?_)
              obtain ⟨G125, A126, at2_127, tk2_128, rfl, rfl, hW129, hF130, e131, e132, p133, p134, p135, -⟩ := hq
              have hF137 := Fr_tr hF0 hF130 (Fr_sub (by decide)) (Fr_sub (by decide))
              have hP138 := Pf_f hP0 hF130 (by decide)
              have ec139 : ecn A126 (G125 31) = ec := (ecn_f (hF130.2 15 rfl) (hF130.1 31 rfl)).trans e_ec
              have bat2_127 : (0 : Int) ≤ at2_127 ∧ at2_127 ≤ 3002 := e131 ▸ hW129.1 10
              have ztk2_128 := tz_b tk2_128
              have btk2_128 : (0 : Int) ≤ tk2_128 ∧ tk2_128 ≤ 5 := e132 ▸ hW129.1 11
              refine .inl ⟨rfl, ?_⟩
              have pz140 : at0 + tz tk2_128 ≤ at2_127 := by omega
              refine jx_ld (pc' := 48) (l' := L124) (st' := [.ref 66]) rfl (jl_aloadn gL124_0) ?_
              refine jx_vr (pc' := 51) (as := []) (st := []) rfl rfl rfl rfl ⟨rfl, rfl, Nat.le_of_ble_eq_true rfl⟩ rfl rfl (c_readOperand_w (dd := d) (hE := hE) (hd := by omega) (hW := hW129)  (ln := ln) (e_ln := show G125 9 = ln from ((hF130.1 9 rfl).trans (e_ln))) (le := le) (e_le := show A126 4 (ln).toNat = le from (congrFun (hF130.2 4 rfl) _).trans (e_le)) (at0 := at2_127) (e_at0 := show G125 10 = at2_127 from (e131)) (fk := fk) (e_fk := show G125 16 = fk from ((hF130.1 16 rfl).trans (e_fk))) (op0 := op0) (e_op0 := show G125 15 = op0 from ((hF130.1 15 rfl).trans (e_op0))) (nd := nd) (e_nd := show G125 31 = nd from ((hF130.1 31 rfl).trans (e_nd))) (tk0 := tk2_128) (e_tk0 := show G125 11 = tk2_128 from (e132)) (ec := ec) (e_ec := show ecn A126 (G125 31) = ec from ec139) (sy := sy) (e_sy := show G125 19 = sy from ((hF130.1 19 rfl).trans (e_sy))) (i_SV := (SV_ext ((hF130.1 29 rfl)) ((hF130.2 14 rfl)) i_SV))   (p_0 := by omega) (p_1 := by omega) (p_2 := by omega) (p_3 := by omega) (p_4 := by omega) (p_5 := by omega)) (fun o V' hq => ?_)
              obtain ⟨G141, A142, r143, at2_144, fk2_145, op2_146, nd2_147, tk2_148, ec2_149, rfl, rfl, hW150, hF151, hQ152, b153, e154, e155, e156, e157, e158, e159, p160, p161, p162, p163, p164, p165, q166⟩ := hq
              have hF167 := Fr_tr hF137 hF151 (Fr_sub (by decide)) (Fr_sub (by decide))
              have hP168 := Pf_tr hP138 hQ152 (by omega)
              have bat2_144 : (0 : Int) ≤ at2_144 ∧ at2_144 ≤ 3002 := e154 ▸ hW150.1 10
              have bfk2_145 : (0 : Int) ≤ fk2_145 ∧ fk2_145 ≤ 6 := e155 ▸ hW150.1 16
              have bop2_146 : (-2147483648 : Int) ≤ op2_146 ∧ op2_146 ≤ 2147483647 := e156 ▸ hW150.1 15
              have bnd2_147 : (0 : Int) ≤ nd2_147 ∧ nd2_147 ≤ 6999 := e157 ▸ hW150.1 31
              have ztk2_148 := tz_b tk2_148
              have btk2_148 : (0 : Int) ≤ tk2_148 ∧ tk2_148 ≤ 5 := e158 ▸ hW150.1 11
              refine .inr ⟨_, rfl, ?_⟩
              rcases q166 with ⟨a169, a170, a171, a172, a173, a174⟩ | ⟨a175, a176, a177⟩ | ⟨a178, a179, a180, a181, a182, a183, a184⟩
              · have _q : True := trivial
                exfalso
                omega
              · have _q : True := trivial
                refine jx_ld (pc' := 52) (l' := jSto1 L124 2 (.int (i32 (r143)))) (st' := []) rfl rfl ?_
                obtain ⟨L185, eL185⟩ : ∃ q, q = jSto1 L124 2 (.int (i32 (r143))) := ⟨_, rfl⟩
                rw [← eL185]
                have gL185_0 : jGet L185 0 = some (.ref 66) := eL185 ▸ jg_ne (by decide) gL124_0 rfl
                have gL185_1 : jGet L185 1 = some (.int (i32 (6))) := eL185 ▸ jg_ne (by decide) gL124_1 rfl
                have gL185_2 : jGet L185 2 = some (.int (i32 (r143))) := eL185 ▸ jg_eq
                refine jx_ld (pc' := 53) (l' := L185) (st' := [.ref 66]) rfl (jl_aloadn gL185_0) ?_
                refine jx_ld (pc' := 54) (l' := L185) (st' := [.int (i32 (6)), .ref 66]) rfl (jl_iloadn gL185_1) ?_
                refine jx_ld (pc' := 55) (l' := L185) (st' := [.int (i32 (r143)), .int (i32 (6)), .ref 66]) rfl (jl_iloadn gL185_2) ?_
                refine jx_ar (pc' := 56) (st' := [.int (i32 (0)), .int (i32 (r143)), .int (i32 (6)), .ref 66]) rfl rfl rfl rfl ?_
                refine jx_ar (pc' := 57) (st' := [.int (i32 (0)), .int (i32 (0)), .int (i32 (r143)), .int (i32 (6)), .ref 66]) rfl rfl rfl rfl ?_
                refine jx_ar (pc' := 58) (st' := [.int (i32 (0)), .int (i32 (0)), .int (i32 (0)), .int (i32 (r143)), .int (i32 (6)), .ref 66]) rfl rfl rfl rfl ?_
                refine jx_vr (pc' := 61) (as := [.int (i32 (6)), .int (i32 (r143)), .int (i32 (0)), .int (i32 (0)), .int (i32 (0))]) (st := []) rfl rfl rfl rfl ⟨rfl, rfl, Nat.le_of_ble_eq_true rfl⟩ rfl rfl (c_node_o (dd := d) (hd := by omega) (hW := hW150) (kind := 6) (a := r143) (b := 0) (c := 0) (e := 0) (nd := nd2_147) (e_nd := show G141 31 = nd2_147 from (e157)) (ec := ec2_149) (e_ec := show ecn A142 (G141 31) = ec2_149 from e159) (sy := sy) (e_sy := show G141 19 = sy from ((hF151.1 19 rfl).trans ((hF130.1 19 rfl).trans (e_sy))))  (h_kind := ⟨(by decide), (by decide)⟩) (h_a := ⟨(Int.le_trans (by decide : (-2147483648 : Int) ≤ -2147483648) b153.1), (Int.le_trans b153.2 (by decide : (2147483647 : Int) ≤ 2147483647))⟩) (h_b := ⟨(by decide), (by decide)⟩) (h_c := ⟨(by decide), (by decide)⟩) (h_e := ⟨(by decide), (by decide)⟩)  (p_0 := by omega) (p_1 := by omega) (p_2 := by omega)) (fun o V' hq => ?_)
                obtain ⟨G186, A187, nd2_188, ec2_189, rfl, rfl, hW190, hF191, hQ192, e193, e194, p195, p196, p197, p198, -⟩ := hq
                have hF200 := Fr_tr hF167 hF191 (Fr_sub (by decide)) (Fr_sub (by decide))
                have hP201 := Pf_tr hP168 hQ192 (by omega)
                have bnd2_188 : (0 : Int) ≤ nd2_188 ∧ nd2_188 ≤ 6999 := e193 ▸ hW190.1 31
                refine .inr ⟨_, rfl, ?_⟩
                refine jx_rt (v := some (.int (i32 (nd2_147)))) rfl rfl rfl rfl rfl rfl ?_
                have z202 := tz_f (tk2_148)
                exact ⟨_, _, _, at2_144, fk2_145, op2_146, nd2_188, tk2_148, ec2_189, rfl, rfl, hW190, hF200, hP201, by omega, ((hF191.1 10 rfl).trans (e154)), ((hF191.1 16 rfl).trans (e155)), ((hF191.1 15 rfl).trans (e156)), (e193), ((hF191.1 11 rfl).trans (e158)), e194, by omega, by omega, by omega, by omega, by omega, by omega, by first | exact Or.inr (Or.inl (⟨by omega, by omega, by omega⟩))⟩
              · have _q : True := trivial
                refine jx_ld (pc' := 52) (l' := jSto1 L124 2 (.int (i32 (r143)))) (st' := []) rfl rfl ?_
                obtain ⟨L203, eL203⟩ : ∃ q, q = jSto1 L124 2 (.int (i32 (r143))) := ⟨_, rfl⟩
                rw [← eL203]
                have gL203_0 : jGet L203 0 = some (.ref 66) := eL203 ▸ jg_ne (by decide) gL124_0 rfl
                have gL203_1 : jGet L203 1 = some (.int (i32 (6))) := eL203 ▸ jg_ne (by decide) gL124_1 rfl
                have gL203_2 : jGet L203 2 = some (.int (i32 (r143))) := eL203 ▸ jg_eq
                refine jx_ld (pc' := 53) (l' := L203) (st' := [.ref 66]) rfl (jl_aloadn gL203_0) ?_
                refine jx_ld (pc' := 54) (l' := L203) (st' := [.int (i32 (6)), .ref 66]) rfl (jl_iloadn gL203_1) ?_
                refine jx_ld (pc' := 55) (l' := L203) (st' := [.int (i32 (r143)), .int (i32 (6)), .ref 66]) rfl (jl_iloadn gL203_2) ?_
                refine jx_ar (pc' := 56) (st' := [.int (i32 (0)), .int (i32 (r143)), .int (i32 (6)), .ref 66]) rfl rfl rfl rfl ?_
                refine jx_ar (pc' := 57) (st' := [.int (i32 (0)), .int (i32 (0)), .int (i32 (r143)), .int (i32 (6)), .ref 66]) rfl rfl rfl rfl ?_
                refine jx_ar (pc' := 58) (st' := [.int (i32 (0)), .int (i32 (0)), .int (i32 (0)), .int (i32 (r143)), .int (i32 (6)), .ref 66]) rfl rfl rfl rfl ?_
                refine jx_vr (pc' := 61) (as := [.int (i32 (6)), .int (i32 (r143)), .int (i32 (0)), .int (i32 (0)), .int (i32 (0))]) (st := []) rfl rfl rfl rfl ⟨rfl, rfl, Nat.le_of_ble_eq_true rfl⟩ rfl rfl (c_node_o (dd := d) (hd := by omega) (hW := hW150) (kind := 6) (a := r143) (b := 0) (c := 0) (e := 0) (nd := nd2_147) (e_nd := show G141 31 = nd2_147 from (e157)) (ec := ec2_149) (e_ec := show ecn A142 (G141 31) = ec2_149 from e159) (sy := sy) (e_sy := show G141 19 = sy from ((hF151.1 19 rfl).trans ((hF130.1 19 rfl).trans (e_sy))))  (h_kind := ⟨(by decide), (by decide)⟩) (h_a := ⟨(Int.le_trans (by decide : (-2147483648 : Int) ≤ -2147483648) b153.1), (Int.le_trans b153.2 (by decide : (2147483647 : Int) ≤ 2147483647))⟩) (h_b := ⟨(by decide), (by decide)⟩) (h_c := ⟨(by decide), (by decide)⟩) (h_e := ⟨(by decide), (by decide)⟩)  (p_0 := by omega) (p_1 := by omega) (p_2 := by omega)) (fun o V' hq => ?_)
                obtain ⟨G204, A205, nd2_206, ec2_207, rfl, rfl, hW208, hF209, hQ210, e211, e212, p213, p214, p215, p216, -⟩ := hq
                have hF218 := Fr_tr hF167 hF209 (Fr_sub (by decide)) (Fr_sub (by decide))
                have hP219 := Pf_tr hP168 hQ210 (by omega)
                have sf220 : wE A205 Vs sb (2 * k + 3) (r143) (nd) (nd2_147) := wE_ag (by omega) (Sg_fr hF209 (by decide)) (Ag_pf hQ210 (by omega)) a181
                have sf221 : NdM A205 (nd) (nd2_147) (sy) := NdM_pf hQ210 (by omega) (by omega) a183
                have bnd2_206 : (0 : Int) ≤ nd2_206 ∧ nd2_206 ≤ 6999 := e211 ▸ hW208.1 31
                refine .inr ⟨_, rfl, ?_⟩
                refine jx_rt (v := some (.int (i32 (nd2_147)))) rfl rfl rfl rfl rfl rfl ?_
                have z222 := tz_f (tk2_148)
                exact ⟨_, _, _, at2_144, fk2_145, op2_146, nd2_206, tk2_148, ec2_207, rfl, rfl, hW208, hF218, hP219, by omega, ((hF209.1 10 rfl).trans (e154)), ((hF209.1 16 rfl).trans (e155)), ((hF209.1 15 rfl).trans (e156)), (e211), ((hF209.1 11 rfl).trans (e158)), e212, by omega, by omega, by omega, by omega, by omega, by omega, by first | exact Or.inr (Or.inr ((⟨by omega, by omega, by omega, (wE_one p215 (by omega) (by omega) (by omega) (wE_mono (by omega) (by omega) (by omega) sf220)), by omega, (NdM_w (NdM_app (sy := sy) sf221 p216 (by omega) (by omega) (by omega)) (by omega) (by omega) (by omega)), by omega⟩)))⟩
            · have _q := h123
              exact absurd h123 (by omega)
        · have _q := h16
          exact absurd h16 (by omega)
      · have _q : True := trivial
        refine jx_if_ne (pc' := 18) (tg := 27) rfl rfl rfl (by decide) (by decide) (fun h223 => ?_) (fun h223 => ?_)
        · have _q := h223
          exact absurd h223 (by omega)
        · have _q := h223
          refine jx_ld (pc' := 19) (l' := [(0, .ref 66)]) (st' := [.ref 66]) rfl (jl_aloadn rfl) ?_
          refine jx_ar (pc' := 21) (st' := [.int (i32 (16)), .ref 66]) rfl rfl rfl rfl ?_
          refine jx_vr (pc' := 24) (as := [.int (i32 (16))]) (st := []) rfl rfl rfl rfl ⟨rfl, rfl, Nat.le_of_ble_eq_true rfl⟩ rfl rfl (c_isKey (dd := d) (hd := by omega) (hW := hW) (k := 16) (tk := tk0) (e_tk := show G 11 = tk0 from (e_tk0)) (tn := G 13) (e_tn := show G 13 = G 13 from rfl)  (h_k := ⟨(by decide), (by decide)⟩)  ) (fun o V' hq => ?_)
          obtain ⟨r224, rfl, rfl, b225, q226⟩ := hq
          refine .inr ⟨_, rfl, ?_⟩
          rcases q226 with ⟨rfl, a227, a228, a229⟩ | rfl
          · have _q : True := trivial
            refine jx_if_eq (pc' := 27) (tg := 62) rfl rfl rfl (by decide) (by decide) (fun h230 => ?_) (fun h230 => ?_)
            · have _q := h230
              exact absurd h230 (by omega)
            · have _q := h230
              refine jx_ld (pc' := 28) (l' := [(0, .ref 66)]) (st' := [.ref 66]) rfl (jl_aloadn rfl) ?_
              refine jx_ar (pc' := 30) (st' := [.int (i32 (45)), .ref 66]) rfl rfl rfl rfl ?_
              refine jx_vr (pc' := 33) (as := [.int (i32 (45))]) (st := []) rfl rfl rfl rfl ⟨rfl, rfl, Nat.le_of_ble_eq_true rfl⟩ rfl rfl (c_is (dd := d) (hd := by omega) (hW := hW) (k := 45) (tk := tk0) (e_tk := show G 11 = tk0 from (e_tk0)) (tn := G 13) (e_tn := show G 13 = G 13 from rfl)  (h_k := ⟨(by decide), (by decide)⟩)  ) (fun o V' hq => ?_)
              obtain ⟨r231, rfl, rfl, b232, q233⟩ := hq
              refine .inr ⟨_, rfl, ?_⟩
              rcases q233 with ⟨rfl, a234, a235, a236⟩ | rfl
              · have _q : True := trivial
                refine jx_if_eq (pc' := 36) (tg := 40) rfl rfl rfl (by decide) (by decide) (fun h237 => ?_) (fun h237 => ?_)
                · have _q := h237
                  exact absurd h237 (by omega)
                · have _q := h237
                  refine jx_ar (pc' := 37) (st' := [.int (i32 (5))]) rfl rfl rfl rfl ?_
                  refine jx_go (tg := 42) rfl rfl ?_
                  refine jx_ld (pc' := 43) (l' := jSto1 [(0, .ref 66)] 1 (.int (i32 (5)))) (st' := []) rfl rfl ?_
                  obtain ⟨L238, eL238⟩ : ∃ q, q = jSto1 [(0, .ref 66)] 1 (.int (i32 (5))) := ⟨_, rfl⟩
                  rw [← eL238]
                  have gL238_0 : jGet L238 0 = some (.ref 66) := eL238 ▸ jg_ne (by decide) (rfl : jGet [(0, .ref 66)] 0 = some (.ref 66)) rfl
                  have gL238_1 : jGet L238 1 = some (.int (i32 (5))) := eL238 ▸ jg_eq
                  refine jx_ld (pc' := 44) (l' := L238) (st' := [.ref 66]) rfl (jl_aloadn gL238_0) ?_
                  refine jx_vr (pc' := 47) (as := []) (st := []) rfl rfl rfl rfl ⟨rfl, rfl, Nat.le_of_ble_eq_true rfl⟩ rfl rfl (c_next (dd := d) (hd := by omega) (hW := hW)  (ln := ln) (e_ln := show G 9 = ln from (e_ln)) (le := le) (e_le := show A 4 (ln).toNat = le from (e_le)) (at0 := at0) (e_at0 := show G 10 = at0 from (e_at0))    (p_0 := by omega)) (fun o V' hq => ?_)
                  obtain ⟨G239, A240, at2_241, tk2_242, rfl, rfl, hW243, hF244, e245, e246, p247, p248, p249, -⟩ := hq
                  have hF251 := Fr_tr hF0 hF244 (Fr_sub (by decide)) (Fr_sub (by decide))
                  have hP252 := Pf_f hP0 hF244 (by decide)
                  have ec253 : ecn A240 (G239 31) = ec := (ecn_f (hF244.2 15 rfl) (hF244.1 31 rfl)).trans e_ec
                  have bat2_241 : (0 : Int) ≤ at2_241 ∧ at2_241 ≤ 3002 := e245 ▸ hW243.1 10
                  have ztk2_242 := tz_b tk2_242
                  have btk2_242 : (0 : Int) ≤ tk2_242 ∧ tk2_242 ≤ 5 := e246 ▸ hW243.1 11
                  refine .inl ⟨rfl, ?_⟩
                  have pz254 : at0 + tz tk2_242 ≤ at2_241 := by omega
                  refine jx_ld (pc' := 48) (l' := L238) (st' := [.ref 66]) rfl (jl_aloadn gL238_0) ?_
                  refine jx_vr (pc' := 51) (as := []) (st := []) rfl rfl rfl rfl ⟨rfl, rfl, Nat.le_of_ble_eq_true rfl⟩ rfl rfl (c_readOperand_w (dd := d) (hE := hE) (hd := by omega) (hW := hW243)  (ln := ln) (e_ln := show G239 9 = ln from ((hF244.1 9 rfl).trans (e_ln))) (le := le) (e_le := show A240 4 (ln).toNat = le from (congrFun (hF244.2 4 rfl) _).trans (e_le)) (at0 := at2_241) (e_at0 := show G239 10 = at2_241 from (e245)) (fk := fk) (e_fk := show G239 16 = fk from ((hF244.1 16 rfl).trans (e_fk))) (op0 := op0) (e_op0 := show G239 15 = op0 from ((hF244.1 15 rfl).trans (e_op0))) (nd := nd) (e_nd := show G239 31 = nd from ((hF244.1 31 rfl).trans (e_nd))) (tk0 := tk2_242) (e_tk0 := show G239 11 = tk2_242 from (e246)) (ec := ec) (e_ec := show ecn A240 (G239 31) = ec from ec253) (sy := sy) (e_sy := show G239 19 = sy from ((hF244.1 19 rfl).trans (e_sy))) (i_SV := (SV_ext ((hF244.1 29 rfl)) ((hF244.2 14 rfl)) i_SV))   (p_0 := by omega) (p_1 := by omega) (p_2 := by omega) (p_3 := by omega) (p_4 := by omega) (p_5 := by omega)) (fun o V' hq => ?_)
                  obtain ⟨G255, A256, r257, at2_258, fk2_259, op2_260, nd2_261, tk2_262, ec2_263, rfl, rfl, hW264, hF265, hQ266, b267, e268, e269, e270, e271, e272, e273, p274, p275, p276, p277, p278, p279, q280⟩ := hq
                  have hF281 := Fr_tr hF251 hF265 (Fr_sub (by decide)) (Fr_sub (by decide))
                  have hP282 := Pf_tr hP252 hQ266 (by omega)
                  have bat2_258 : (0 : Int) ≤ at2_258 ∧ at2_258 ≤ 3002 := e268 ▸ hW264.1 10
                  have bfk2_259 : (0 : Int) ≤ fk2_259 ∧ fk2_259 ≤ 6 := e269 ▸ hW264.1 16
                  have bop2_260 : (-2147483648 : Int) ≤ op2_260 ∧ op2_260 ≤ 2147483647 := e270 ▸ hW264.1 15
                  have bnd2_261 : (0 : Int) ≤ nd2_261 ∧ nd2_261 ≤ 6999 := e271 ▸ hW264.1 31
                  have ztk2_262 := tz_b tk2_262
                  have btk2_262 : (0 : Int) ≤ tk2_262 ∧ tk2_262 ≤ 5 := e272 ▸ hW264.1 11
                  refine .inr ⟨_, rfl, ?_⟩
                  rcases q280 with ⟨a283, a284, a285, a286, a287, a288⟩ | ⟨a289, a290, a291⟩ | ⟨a292, a293, a294, a295, a296, a297, a298⟩
                  · have _q : True := trivial
                    exfalso
                    omega
                  · have _q : True := trivial
                    refine jx_ld (pc' := 52) (l' := jSto1 L238 2 (.int (i32 (r257)))) (st' := []) rfl rfl ?_
                    obtain ⟨L299, eL299⟩ : ∃ q, q = jSto1 L238 2 (.int (i32 (r257))) := ⟨_, rfl⟩
                    rw [← eL299]
                    have gL299_0 : jGet L299 0 = some (.ref 66) := eL299 ▸ jg_ne (by decide) gL238_0 rfl
                    have gL299_1 : jGet L299 1 = some (.int (i32 (5))) := eL299 ▸ jg_ne (by decide) gL238_1 rfl
                    have gL299_2 : jGet L299 2 = some (.int (i32 (r257))) := eL299 ▸ jg_eq
                    refine jx_ld (pc' := 53) (l' := L299) (st' := [.ref 66]) rfl (jl_aloadn gL299_0) ?_
                    refine jx_ld (pc' := 54) (l' := L299) (st' := [.int (i32 (5)), .ref 66]) rfl (jl_iloadn gL299_1) ?_
                    refine jx_ld (pc' := 55) (l' := L299) (st' := [.int (i32 (r257)), .int (i32 (5)), .ref 66]) rfl (jl_iloadn gL299_2) ?_
                    refine jx_ar (pc' := 56) (st' := [.int (i32 (0)), .int (i32 (r257)), .int (i32 (5)), .ref 66]) rfl rfl rfl rfl ?_
                    refine jx_ar (pc' := 57) (st' := [.int (i32 (0)), .int (i32 (0)), .int (i32 (r257)), .int (i32 (5)), .ref 66]) rfl rfl rfl rfl ?_
                    refine jx_ar (pc' := 58) (st' := [.int (i32 (0)), .int (i32 (0)), .int (i32 (0)), .int (i32 (r257)), .int (i32 (5)), .ref 66]) rfl rfl rfl rfl ?_
                    refine jx_vr (pc' := 61) (as := [.int (i32 (5)), .int (i32 (r257)), .int (i32 (0)), .int (i32 (0)), .int (i32 (0))]) (st := []) rfl rfl rfl rfl ⟨rfl, rfl, Nat.le_of_ble_eq_true rfl⟩ rfl rfl (c_node_o (dd := d) (hd := by omega) (hW := hW264) (kind := 5) (a := r257) (b := 0) (c := 0) (e := 0) (nd := nd2_261) (e_nd := show G255 31 = nd2_261 from (e271)) (ec := ec2_263) (e_ec := show ecn A256 (G255 31) = ec2_263 from e273) (sy := sy) (e_sy := show G255 19 = sy from ((hF265.1 19 rfl).trans ((hF244.1 19 rfl).trans (e_sy))))  (h_kind := ⟨(by decide), (by decide)⟩) (h_a := ⟨(Int.le_trans (by decide : (-2147483648 : Int) ≤ -2147483648) b267.1), (Int.le_trans b267.2 (by decide : (2147483647 : Int) ≤ 2147483647))⟩) (h_b := ⟨(by decide), (by decide)⟩) (h_c := ⟨(by decide), (by decide)⟩) (h_e := ⟨(by decide), (by decide)⟩)  (p_0 := by omega) (p_1 := by omega) (p_2 := by omega)) (fun o V' hq => ?_)
                    obtain ⟨G300, A301, nd2_302, ec2_303, rfl, rfl, hW304, hF305, hQ306, e307, e308, p309, p310, p311, p312, -⟩ := hq
                    have hF314 := Fr_tr hF281 hF305 (Fr_sub (by decide)) (Fr_sub (by decide))
                    have hP315 := Pf_tr hP282 hQ306 (by omega)
                    have bnd2_302 : (0 : Int) ≤ nd2_302 ∧ nd2_302 ≤ 6999 := e307 ▸ hW304.1 31
                    refine .inr ⟨_, rfl, ?_⟩
                    refine jx_rt (v := some (.int (i32 (nd2_261)))) rfl rfl rfl rfl rfl rfl ?_
                    have z316 := tz_f (tk2_262)
                    exact ⟨_, _, _, at2_258, fk2_259, op2_260, nd2_302, tk2_262, ec2_303, rfl, rfl, hW304, hF314, hP315, by omega, ((hF305.1 10 rfl).trans (e268)), ((hF305.1 16 rfl).trans (e269)), ((hF305.1 15 rfl).trans (e270)), (e307), ((hF305.1 11 rfl).trans (e272)), e308, by omega, by omega, by omega, by omega, by omega, by omega, by first | exact Or.inr (Or.inl (⟨by omega, by omega, by omega⟩))⟩
                  · have _q : True := trivial
                    refine jx_ld (pc' := 52) (l' := jSto1 L238 2 (.int (i32 (r257)))) (st' := []) rfl rfl ?_
                    obtain ⟨L317, eL317⟩ : ∃ q, q = jSto1 L238 2 (.int (i32 (r257))) := ⟨_, rfl⟩
                    rw [← eL317]
                    have gL317_0 : jGet L317 0 = some (.ref 66) := eL317 ▸ jg_ne (by decide) gL238_0 rfl
                    have gL317_1 : jGet L317 1 = some (.int (i32 (5))) := eL317 ▸ jg_ne (by decide) gL238_1 rfl
                    have gL317_2 : jGet L317 2 = some (.int (i32 (r257))) := eL317 ▸ jg_eq
                    refine jx_ld (pc' := 53) (l' := L317) (st' := [.ref 66]) rfl (jl_aloadn gL317_0) ?_
                    refine jx_ld (pc' := 54) (l' := L317) (st' := [.int (i32 (5)), .ref 66]) rfl (jl_iloadn gL317_1) ?_
                    refine jx_ld (pc' := 55) (l' := L317) (st' := [.int (i32 (r257)), .int (i32 (5)), .ref 66]) rfl (jl_iloadn gL317_2) ?_
                    refine jx_ar (pc' := 56) (st' := [.int (i32 (0)), .int (i32 (r257)), .int (i32 (5)), .ref 66]) rfl rfl rfl rfl ?_
                    refine jx_ar (pc' := 57) (st' := [.int (i32 (0)), .int (i32 (0)), .int (i32 (r257)), .int (i32 (5)), .ref 66]) rfl rfl rfl rfl ?_
                    refine jx_ar (pc' := 58) (st' := [.int (i32 (0)), .int (i32 (0)), .int (i32 (0)), .int (i32 (r257)), .int (i32 (5)), .ref 66]) rfl rfl rfl rfl ?_
                    refine jx_vr (pc' := 61) (as := [.int (i32 (5)), .int (i32 (r257)), .int (i32 (0)), .int (i32 (0)), .int (i32 (0))]) (st := []) rfl rfl rfl rfl ⟨rfl, rfl, Nat.le_of_ble_eq_true rfl⟩ rfl rfl (c_node_o (dd := d) (hd := by omega) (hW := hW264) (kind := 5) (a := r257) (b := 0) (c := 0) (e := 0) (nd := nd2_261) (e_nd := show G255 31 = nd2_261 from (e271)) (ec := ec2_263) (e_ec := show ecn A256 (G255 31) = ec2_263 from e273) (sy := sy) (e_sy := show G255 19 = sy from ((hF265.1 19 rfl).trans ((hF244.1 19 rfl).trans (e_sy))))  (h_kind := ⟨(by decide), (by decide)⟩) (h_a := ⟨(Int.le_trans (by decide : (-2147483648 : Int) ≤ -2147483648) b267.1), (Int.le_trans b267.2 (by decide : (2147483647 : Int) ≤ 2147483647))⟩) (h_b := ⟨(by decide), (by decide)⟩) (h_c := ⟨(by decide), (by decide)⟩) (h_e := ⟨(by decide), (by decide)⟩)  (p_0 := by omega) (p_1 := by omega) (p_2 := by omega)) (fun o V' hq => ?_)
                    obtain ⟨G318, A319, nd2_320, ec2_321, rfl, rfl, hW322, hF323, hQ324, e325, e326, p327, p328, p329, p330, -⟩ := hq
                    have hF332 := Fr_tr hF281 hF323 (Fr_sub (by decide)) (Fr_sub (by decide))
                    have hP333 := Pf_tr hP282 hQ324 (by omega)
                    have sf334 : wE A319 Vs sb (2 * k + 3) (r257) (nd) (nd2_261) := wE_ag (by omega) (Sg_fr hF323 (by decide)) (Ag_pf hQ324 (by omega)) a295
                    have sf335 : NdM A319 (nd) (nd2_261) (sy) := NdM_pf hQ324 (by omega) (by omega) a297
                    have bnd2_320 : (0 : Int) ≤ nd2_320 ∧ nd2_320 ≤ 6999 := e325 ▸ hW322.1 31
                    refine .inr ⟨_, rfl, ?_⟩
                    refine jx_rt (v := some (.int (i32 (nd2_261)))) rfl rfl rfl rfl rfl rfl ?_
                    have z336 := tz_f (tk2_262)
                    exact ⟨_, _, _, at2_258, fk2_259, op2_260, nd2_320, tk2_262, ec2_321, rfl, rfl, hW322, hF332, hP333, by omega, ((hF323.1 10 rfl).trans (e268)), ((hF323.1 16 rfl).trans (e269)), ((hF323.1 15 rfl).trans (e270)), (e325), ((hF323.1 11 rfl).trans (e272)), e326, by omega, by omega, by omega, by omega, by omega, by omega, by first | exact Or.inr (Or.inr ((⟨by omega, by omega, by omega, (wE_one p329 (by omega) (by omega) (by omega) (wE_mono (by omega) (by omega) (by omega) sf334)), by omega, (NdM_w (NdM_app (sy := sy) sf335 p330 (by omega) (by omega) (by omega)) (by omega) (by omega) (by omega)), by omega⟩)))⟩
              · have _q : True := trivial
                refine jx_if_eq (pc' := 36) (tg := 40) rfl rfl rfl (by decide) (by decide) (fun h337 => ?_) (fun h337 => ?_)
                · have _q := h337
                  refine jx_ar (pc' := 42) (st' := [.int (i32 (6))]) rfl rfl rfl rfl ?_
                  refine jx_ld (pc' := 43) (l' := jSto1 [(0, .ref 66)] 1 (.int (i32 (6)))) (st' := []) rfl rfl ?_
                  obtain ⟨L338, eL338⟩ : ∃ q, q = jSto1 [(0, .ref 66)] 1 (.int (i32 (6))) := ⟨_, rfl⟩
                  rw [← eL338]
                  have gL338_0 : jGet L338 0 = some (.ref 66) := eL338 ▸ jg_ne (by decide) (rfl : jGet [(0, .ref 66)] 0 = some (.ref 66)) rfl
                  have gL338_1 : jGet L338 1 = some (.int (i32 (6))) := eL338 ▸ jg_eq
                  refine jx_ld (pc' := 44) (l' := L338) (st' := [.ref 66]) rfl (jl_aloadn gL338_0) ?_
                  refine jx_vr (pc' := 47) (as := []) (st := []) rfl rfl rfl rfl ⟨rfl, rfl, Nat.le_of_ble_eq_true rfl⟩ rfl rfl (c_next (dd := d) (hd := by omega) (hW := hW)  (ln := ln) (e_ln := show G 9 = ln from (e_ln)) (le := le) (e_le := show A 4 (ln).toNat = le from (e_le)) (at0 := at0) (e_at0 := show G 10 = at0 from (e_at0))    (p_0 := by omega)) (fun o V' hq => ?_)
                  obtain ⟨G339, A340, at2_341, tk2_342, rfl, rfl, hW343, hF344, e345, e346, p347, p348, p349, -⟩ := hq
                  have hF351 := Fr_tr hF0 hF344 (Fr_sub (by decide)) (Fr_sub (by decide))
                  have hP352 := Pf_f hP0 hF344 (by decide)
                  have ec353 : ecn A340 (G339 31) = ec := (ecn_f (hF344.2 15 rfl) (hF344.1 31 rfl)).trans e_ec
                  have bat2_341 : (0 : Int) ≤ at2_341 ∧ at2_341 ≤ 3002 := e345 ▸ hW343.1 10
                  have ztk2_342 := tz_b tk2_342
                  have btk2_342 : (0 : Int) ≤ tk2_342 ∧ tk2_342 ≤ 5 := e346 ▸ hW343.1 11
                  refine .inl ⟨rfl, ?_⟩
                  have pz354 : at0 + tz tk2_342 ≤ at2_341 := by omega
                  refine jx_ld (pc' := 48) (l' := L338) (st' := [.ref 66]) rfl (jl_aloadn gL338_0) ?_
                  refine jx_vr (pc' := 51) (as := []) (st := []) rfl rfl rfl rfl ⟨rfl, rfl, Nat.le_of_ble_eq_true rfl⟩ rfl rfl (c_readOperand_w (dd := d) (hE := hE) (hd := by omega) (hW := hW343)  (ln := ln) (e_ln := show G339 9 = ln from ((hF344.1 9 rfl).trans (e_ln))) (le := le) (e_le := show A340 4 (ln).toNat = le from (congrFun (hF344.2 4 rfl) _).trans (e_le)) (at0 := at2_341) (e_at0 := show G339 10 = at2_341 from (e345)) (fk := fk) (e_fk := show G339 16 = fk from ((hF344.1 16 rfl).trans (e_fk))) (op0 := op0) (e_op0 := show G339 15 = op0 from ((hF344.1 15 rfl).trans (e_op0))) (nd := nd) (e_nd := show G339 31 = nd from ((hF344.1 31 rfl).trans (e_nd))) (tk0 := tk2_342) (e_tk0 := show G339 11 = tk2_342 from (e346)) (ec := ec) (e_ec := show ecn A340 (G339 31) = ec from ec353) (sy := sy) (e_sy := show G339 19 = sy from ((hF344.1 19 rfl).trans (e_sy))) (i_SV := (SV_ext ((hF344.1 29 rfl)) ((hF344.2 14 rfl)) i_SV))   (p_0 := by omega) (p_1 := by omega) (p_2 := by omega) (p_3 := by omega) (p_4 := by omega) (p_5 := by omega)) (fun o V' hq => ?_)
                  obtain ⟨G355, A356, r357, at2_358, fk2_359, op2_360, nd2_361, tk2_362, ec2_363, rfl, rfl, hW364, hF365, hQ366, b367, e368, e369, e370, e371, e372, e373, p374, p375, p376, p377, p378, p379, q380⟩ := hq
                  have hF381 := Fr_tr hF351 hF365 (Fr_sub (by decide)) (Fr_sub (by decide))
                  have hP382 := Pf_tr hP352 hQ366 (by omega)
                  have bat2_358 : (0 : Int) ≤ at2_358 ∧ at2_358 ≤ 3002 := e368 ▸ hW364.1 10
                  have bfk2_359 : (0 : Int) ≤ fk2_359 ∧ fk2_359 ≤ 6 := e369 ▸ hW364.1 16
                  have bop2_360 : (-2147483648 : Int) ≤ op2_360 ∧ op2_360 ≤ 2147483647 := e370 ▸ hW364.1 15
                  have bnd2_361 : (0 : Int) ≤ nd2_361 ∧ nd2_361 ≤ 6999 := e371 ▸ hW364.1 31
                  have ztk2_362 := tz_b tk2_362
                  have btk2_362 : (0 : Int) ≤ tk2_362 ∧ tk2_362 ≤ 5 := e372 ▸ hW364.1 11
                  refine .inr ⟨_, rfl, ?_⟩
                  rcases q380 with ⟨a383, a384, a385, a386, a387, a388⟩ | ⟨a389, a390, a391⟩ | ⟨a392, a393, a394, a395, a396, a397, a398⟩
                  · have _q : True := trivial
                    exfalso
                    omega
                  · have _q : True := trivial
                    refine jx_ld (pc' := 52) (l' := jSto1 L338 2 (.int (i32 (r357)))) (st' := []) rfl rfl ?_
                    obtain ⟨L399, eL399⟩ : ∃ q, q = jSto1 L338 2 (.int (i32 (r357))) := ⟨_, rfl⟩
                    rw [← eL399]
                    have gL399_0 : jGet L399 0 = some (.ref 66) := eL399 ▸ jg_ne (by decide) gL338_0 rfl
                    have gL399_1 : jGet L399 1 = some (.int (i32 (6))) := eL399 ▸ jg_ne (by decide) gL338_1 rfl
                    have gL399_2 : jGet L399 2 = some (.int (i32 (r357))) := eL399 ▸ jg_eq
                    refine jx_ld (pc' := 53) (l' := L399) (st' := [.ref 66]) rfl (jl_aloadn gL399_0) ?_
                    refine jx_ld (pc' := 54) (l' := L399) (st' := [.int (i32 (6)), .ref 66]) rfl (jl_iloadn gL399_1) ?_
                    refine jx_ld (pc' := 55) (l' := L399) (st' := [.int (i32 (r357)), .int (i32 (6)), .ref 66]) rfl (jl_iloadn gL399_2) ?_
                    refine jx_ar (pc' := 56) (st' := [.int (i32 (0)), .int (i32 (r357)), .int (i32 (6)), .ref 66]) rfl rfl rfl rfl ?_
                    refine jx_ar (pc' := 57) (st' := [.int (i32 (0)), .int (i32 (0)), .int (i32 (r357)), .int (i32 (6)), .ref 66]) rfl rfl rfl rfl ?_
                    refine jx_ar (pc' := 58) (st' := [.int (i32 (0)), .int (i32 (0)), .int (i32 (0)), .int (i32 (r357)), .int (i32 (6)), .ref 66]) rfl rfl rfl rfl ?_
                    refine jx_vr (pc' := 61) (as := [.int (i32 (6)), .int (i32 (r357)), .int (i32 (0)), .int (i32 (0)), .int (i32 (0))]) (st := []) rfl rfl rfl rfl ⟨rfl, rfl, Nat.le_of_ble_eq_true rfl⟩ rfl rfl (c_node_o (dd := d) (hd := by omega) (hW := hW364) (kind := 6) (a := r357) (b := 0) (c := 0) (e := 0) (nd := nd2_361) (e_nd := show G355 31 = nd2_361 from (e371)) (ec := ec2_363) (e_ec := show ecn A356 (G355 31) = ec2_363 from e373) (sy := sy) (e_sy := show G355 19 = sy from ((hF365.1 19 rfl).trans ((hF344.1 19 rfl).trans (e_sy))))  (h_kind := ⟨(by decide), (by decide)⟩) (h_a := ⟨(Int.le_trans (by decide : (-2147483648 : Int) ≤ -2147483648) b367.1), (Int.le_trans b367.2 (by decide : (2147483647 : Int) ≤ 2147483647))⟩) (h_b := ⟨(by decide), (by decide)⟩) (h_c := ⟨(by decide), (by decide)⟩) (h_e := ⟨(by decide), (by decide)⟩)  (p_0 := by omega) (p_1 := by omega) (p_2 := by omega)) (fun o V' hq => ?_)
                    obtain ⟨G400, A401, nd2_402, ec2_403, rfl, rfl, hW404, hF405, hQ406, e407, e408, p409, p410, p411, p412, -⟩ := hq
                    have hF414 := Fr_tr hF381 hF405 (Fr_sub (by decide)) (Fr_sub (by decide))
                    have hP415 := Pf_tr hP382 hQ406 (by omega)
                    have bnd2_402 : (0 : Int) ≤ nd2_402 ∧ nd2_402 ≤ 6999 := e407 ▸ hW404.1 31
                    refine .inr ⟨_, rfl, ?_⟩
                    refine jx_rt (v := some (.int (i32 (nd2_361)))) rfl rfl rfl rfl rfl rfl ?_
                    have z416 := tz_f (tk2_362)
                    exact ⟨_, _, _, at2_358, fk2_359, op2_360, nd2_402, tk2_362, ec2_403, rfl, rfl, hW404, hF414, hP415, by omega, ((hF405.1 10 rfl).trans (e368)), ((hF405.1 16 rfl).trans (e369)), ((hF405.1 15 rfl).trans (e370)), (e407), ((hF405.1 11 rfl).trans (e372)), e408, by omega, by omega, by omega, by omega, by omega, by omega, by first | exact Or.inr (Or.inl (⟨by omega, by omega, by omega⟩))⟩
                  · have _q : True := trivial
                    refine jx_ld (pc' := 52) (l' := jSto1 L338 2 (.int (i32 (r357)))) (st' := []) rfl rfl ?_
                    obtain ⟨L417, eL417⟩ : ∃ q, q = jSto1 L338 2 (.int (i32 (r357))) := ⟨_, rfl⟩
                    rw [← eL417]
                    have gL417_0 : jGet L417 0 = some (.ref 66) := eL417 ▸ jg_ne (by decide) gL338_0 rfl
                    have gL417_1 : jGet L417 1 = some (.int (i32 (6))) := eL417 ▸ jg_ne (by decide) gL338_1 rfl
                    have gL417_2 : jGet L417 2 = some (.int (i32 (r357))) := eL417 ▸ jg_eq
                    refine jx_ld (pc' := 53) (l' := L417) (st' := [.ref 66]) rfl (jl_aloadn gL417_0) ?_
                    refine jx_ld (pc' := 54) (l' := L417) (st' := [.int (i32 (6)), .ref 66]) rfl (jl_iloadn gL417_1) ?_
                    refine jx_ld (pc' := 55) (l' := L417) (st' := [.int (i32 (r357)), .int (i32 (6)), .ref 66]) rfl (jl_iloadn gL417_2) ?_
                    refine jx_ar (pc' := 56) (st' := [.int (i32 (0)), .int (i32 (r357)), .int (i32 (6)), .ref 66]) rfl rfl rfl rfl ?_
                    refine jx_ar (pc' := 57) (st' := [.int (i32 (0)), .int (i32 (0)), .int (i32 (r357)), .int (i32 (6)), .ref 66]) rfl rfl rfl rfl ?_
                    refine jx_ar (pc' := 58) (st' := [.int (i32 (0)), .int (i32 (0)), .int (i32 (0)), .int (i32 (r357)), .int (i32 (6)), .ref 66]) rfl rfl rfl rfl ?_
                    refine jx_vr (pc' := 61) (as := [.int (i32 (6)), .int (i32 (r357)), .int (i32 (0)), .int (i32 (0)), .int (i32 (0))]) (st := []) rfl rfl rfl rfl ⟨rfl, rfl, Nat.le_of_ble_eq_true rfl⟩ rfl rfl (c_node_o (dd := d) (hd := by omega) (hW := hW364) (kind := 6) (a := r357) (b := 0) (c := 0) (e := 0) (nd := nd2_361) (e_nd := show G355 31 = nd2_361 from (e371)) (ec := ec2_363) (e_ec := show ecn A356 (G355 31) = ec2_363 from e373) (sy := sy) (e_sy := show G355 19 = sy from ((hF365.1 19 rfl).trans ((hF344.1 19 rfl).trans (e_sy))))  (h_kind := ⟨(by decide), (by decide)⟩) (h_a := ⟨(Int.le_trans (by decide : (-2147483648 : Int) ≤ -2147483648) b367.1), (Int.le_trans b367.2 (by decide : (2147483647 : Int) ≤ 2147483647))⟩) (h_b := ⟨(by decide), (by decide)⟩) (h_c := ⟨(by decide), (by decide)⟩) (h_e := ⟨(by decide), (by decide)⟩)  (p_0 := by omega) (p_1 := by omega) (p_2 := by omega)) (fun o V' hq => ?_)
                    obtain ⟨G418, A419, nd2_420, ec2_421, rfl, rfl, hW422, hF423, hQ424, e425, e426, p427, p428, p429, p430, -⟩ := hq
                    have hF432 := Fr_tr hF381 hF423 (Fr_sub (by decide)) (Fr_sub (by decide))
                    have hP433 := Pf_tr hP382 hQ424 (by omega)
                    have sf434 : wE A419 Vs sb (2 * k + 3) (r357) (nd) (nd2_361) := wE_ag (by omega) (Sg_fr hF423 (by decide)) (Ag_pf hQ424 (by omega)) a395
                    have sf435 : NdM A419 (nd) (nd2_361) (sy) := NdM_pf hQ424 (by omega) (by omega) a397
                    have bnd2_420 : (0 : Int) ≤ nd2_420 ∧ nd2_420 ≤ 6999 := e425 ▸ hW422.1 31
                    refine .inr ⟨_, rfl, ?_⟩
                    refine jx_rt (v := some (.int (i32 (nd2_361)))) rfl rfl rfl rfl rfl rfl ?_
                    have z436 := tz_f (tk2_362)
                    exact ⟨_, _, _, at2_358, fk2_359, op2_360, nd2_420, tk2_362, ec2_421, rfl, rfl, hW422, hF432, hP433, by omega, ((hF423.1 10 rfl).trans (e368)), ((hF423.1 16 rfl).trans (e369)), ((hF423.1 15 rfl).trans (e370)), (e425), ((hF423.1 11 rfl).trans (e372)), e426, by omega, by omega, by omega, by omega, by omega, by omega, by first | exact Or.inr (Or.inr ((⟨by omega, by omega, by omega, (wE_one p429 (by omega) (by omega) (by omega) (wE_mono (by omega) (by omega) (by omega) sf434)), by omega, (NdM_w (NdM_app (sy := sy) sf435 p430 (by omega) (by omega) (by omega)) (by omega) (by omega) (by omega)), by omega⟩)))⟩
                · have _q := h337
                  exact absurd h337 (by omega)
          · have _q : True := trivial
            refine jx_if_eq (pc' := 27) (tg := 62) rfl rfl rfl (by decide) (by decide) (fun h437 => ?_) (fun h437 => ?_)
            · have _q := h437
              refine jx_ld (pc' := 63) (l' := [(0, .ref 66)]) (st' := [.ref 66]) rfl (jl_aloadn rfl) ?_
              refine jx_ld (pc' := 64) (l' := [(0, .ref 66)]) (st' := [.ref 66, .ref 66]) rfl (jl_aloadn rfl) ?_
              refine jx_vr (pc' := 67) (as := []) (st := [.ref 66]) rfl rfl rfl rfl ⟨rfl, rfl, Nat.le_of_ble_eq_true rfl⟩ rfl rfl (c_readOperand_w (dd := d) (hE := hE) (hd := by omega) (hW := hW)  (ln := ln) (e_ln := show G 9 = ln from (e_ln)) (le := le) (e_le := show A 4 (ln).toNat = le from (e_le)) (at0 := at0) (e_at0 := show G 10 = at0 from (e_at0)) (fk := fk) (e_fk := show G 16 = fk from (e_fk)) (op0 := op0) (e_op0 := show G 15 = op0 from (e_op0)) (nd := nd) (e_nd := show G 31 = nd from (e_nd)) (tk0 := tk0) (e_tk0 := show G 11 = tk0 from (e_tk0)) (ec := ec) (e_ec := show ecn A (G 31) = ec from e_ec) (sy := sy) (e_sy := show G 19 = sy from (e_sy)) (i_SV := (SV_ext (rfl) (rfl) i_SV))   (p_0 := by omega) (p_1 := by omega) (p_2 := by omega) (p_3 := by omega) (p_4 := by omega) (p_5 := by omega)) (fun o V' hq => ?_)
              obtain ⟨G438, A439, r440, at2_441, fk2_442, op2_443, nd2_444, tk2_445, ec2_446, rfl, rfl, hW447, hF448, hQ449, b450, e451, e452, e453, e454, e455, e456, p457, p458, p459, p460, p461, p462, q463⟩ := hq
              have hF464 := Fr_tr hF0 hF448 (Fr_sub (by decide)) (Fr_sub (by decide))
              have hP465 := Pf_tr hP0 hQ449 (by omega)
              have bat2_441 : (0 : Int) ≤ at2_441 ∧ at2_441 ≤ 3002 := e451 ▸ hW447.1 10
              have bfk2_442 : (0 : Int) ≤ fk2_442 ∧ fk2_442 ≤ 6 := e452 ▸ hW447.1 16
              have bop2_443 : (-2147483648 : Int) ≤ op2_443 ∧ op2_443 ≤ 2147483647 := e453 ▸ hW447.1 15
              have bnd2_444 : (0 : Int) ≤ nd2_444 ∧ nd2_444 ≤ 6999 := e454 ▸ hW447.1 31
              have ztk2_445 := tz_b tk2_445
              have btk2_445 : (0 : Int) ≤ tk2_445 ∧ tk2_445 ≤ 5 := e455 ▸ hW447.1 11
              refine .inr ⟨_, rfl, ?_⟩
              rcases q463 with ⟨a466, a467, a468, a469, a470, a471⟩ | ⟨a472, a473, a474⟩ | ⟨a475, a476, a477, a478, a479, a480, a481⟩
              · have _q : True := trivial
                exfalso
                omega
              · have _q : True := trivial
                refine jx_vr (pc' := 70) (as := [.int (i32 (r440))]) (st := []) rfl rfl rfl rfl ⟨rfl, rfl, Nat.le_of_ble_eq_true rfl⟩ rfl rfl (c_readRest_w (dd := d) (hE := hE) (hd := by omega) (hW := hW447) (x := r440) (lo := nd) (ln := ln) (e_ln := show G438 9 = ln from ((hF448.1 9 rfl).trans (e_ln))) (le := le) (e_le := show A439 4 (ln).toNat = le from (congrFun (hF448.2 4 rfl) _).trans (e_le)) (at0 := at2_441) (e_at0 := show G438 10 = at2_441 from (e451)) (fk := fk2_442) (e_fk := show G438 16 = fk2_442 from (e452)) (op0 := op2_443) (e_op0 := show G438 15 = op2_443 from (e453)) (nd := nd2_444) (e_nd := show G438 31 = nd2_444 from (e454)) (tk0 := tk2_445) (e_tk0 := show G438 11 = tk2_445 from (e455)) (ec := ec2_446) (e_ec := show ecn A439 (G438 31) = ec2_446 from e456) (sy := sy) (e_sy := show G438 19 = sy from ((hF448.1 19 rfl).trans (e_sy))) (i_SV := (SV_ext ((hF448.1 29 rfl)) ((hF448.2 14 rfl)) i_SV)) (h_x := ⟨(Int.le_trans (by decide : (-2147483648 : Int) ≤ -2147483648) b450.1), (Int.le_trans b450.2 (by decide : (2147483647 : Int) ≤ 2147483647))⟩)  (p_0 := by omega) (p_1 := by omega) (p_2 := by omega) (p_3 := by omega) (p_4 := by omega) (p_5 := by omega) (p_6 := by omega) (p_7 := by omega) (p_8 := by omega) (p_9 := (fun q => absurd q (by omega)))) (fun o V' hq => ?_)
                obtain ⟨G482, A483, r484, at2_485, fk2_486, op2_487, nd2_488, tk2_489, ec2_490, rfl, rfl, hW491, hF492, hQ493, b494, e495, e496, e497, e498, e499, e500, p501, p502, p503, p504, p505, p506, q507⟩ := hq
                have hF508 := Fr_tr hF464 hF492 (Fr_sub (by decide)) (Fr_sub (by decide))
                have hP509 := Pf_tr hP465 hQ493 (by omega)
                have bat2_485 : (0 : Int) ≤ at2_485 ∧ at2_485 ≤ 3002 := e495 ▸ hW491.1 10
                have bfk2_486 : (0 : Int) ≤ fk2_486 ∧ fk2_486 ≤ 6 := e496 ▸ hW491.1 16
                have bop2_487 : (-2147483648 : Int) ≤ op2_487 ∧ op2_487 ≤ 2147483647 := e497 ▸ hW491.1 15
                have bnd2_488 : (0 : Int) ≤ nd2_488 ∧ nd2_488 ≤ 6999 := e498 ▸ hW491.1 31
                have ztk2_489 := tz_b tk2_489
                have btk2_489 : (0 : Int) ≤ tk2_489 ∧ tk2_489 ≤ 5 := e499 ▸ hW491.1 11
                refine .inr ⟨_, rfl, ?_⟩
                rcases q507 with ⟨a510, a511, a512, a513, a514, a515⟩ | ⟨a516, a517, a518⟩ | ⟨a519, a520, a521, a522, a523, a524⟩
                · have _q : True := trivial
                  refine jx_rt (v := some (.int (i32 (r484)))) rfl rfl rfl rfl rfl rfl ?_
                  have z525 := tz_f (tk2_489)
                  exact ⟨_, _, _, at2_485, fk2_486, op2_487, nd2_488, tk2_489, ec2_490, rfl, rfl, hW491, hF508, hP509, by omega, (e495), (e496), (e497), (e498), (e499), e500, by omega, by omega, by omega, by omega, by omega, by omega, by first | exact Or.inr (Or.inl (⟨by omega, by omega, by omega⟩))⟩
                · have _q : True := trivial
                  exfalso
                  omega
                · have _q : True := trivial
                  exfalso
                  omega
              · have _q : True := trivial
                refine jx_vr (pc' := 70) (as := [.int (i32 (r440))]) (st := []) rfl rfl rfl rfl ⟨rfl, rfl, Nat.le_of_ble_eq_true rfl⟩ rfl rfl (c_readRest_w (dd := d) (hE := hE) (hd := by omega) (hW := hW447) (x := r440) (lo := nd) (ln := ln) (e_ln := show G438 9 = ln from ((hF448.1 9 rfl).trans (e_ln))) (le := le) (e_le := show A439 4 (ln).toNat = le from (congrFun (hF448.2 4 rfl) _).trans (e_le)) (at0 := at2_441) (e_at0 := show G438 10 = at2_441 from (e451)) (fk := fk2_442) (e_fk := show G438 16 = fk2_442 from (e452)) (op0 := op2_443) (e_op0 := show G438 15 = op2_443 from (e453)) (nd := nd2_444) (e_nd := show G438 31 = nd2_444 from (e454)) (tk0 := tk2_445) (e_tk0 := show G438 11 = tk2_445 from (e455)) (ec := ec2_446) (e_ec := show ecn A439 (G438 31) = ec2_446 from e456) (sy := sy) (e_sy := show G438 19 = sy from ((hF448.1 19 rfl).trans (e_sy))) (i_SV := (SV_ext ((hF448.1 29 rfl)) ((hF448.2 14 rfl)) i_SV)) (h_x := ⟨(Int.le_trans (by decide : (-2147483648 : Int) ≤ -2147483648) b450.1), (Int.le_trans b450.2 (by decide : (2147483647 : Int) ≤ 2147483647))⟩)  (p_0 := by omega) (p_1 := by omega) (p_2 := by omega) (p_3 := by omega) (p_4 := by omega) (p_5 := by omega) (p_6 := by omega) (p_7 := by omega) (p_8 := by omega) (p_9 := (fun _ => a478))) (fun o V' hq => ?_)
                obtain ⟨G526, A527, r528, at2_529, fk2_530, op2_531, nd2_532, tk2_533, ec2_534, rfl, rfl, hW535, hF536, hQ537, b538, e539, e540, e541, e542, e543, e544, p545, p546, p547, p548, p549, p550, q551⟩ := hq
                have hF552 := Fr_tr hF464 hF536 (Fr_sub (by decide)) (Fr_sub (by decide))
                have hP553 := Pf_tr hP465 hQ537 (by omega)
                have sf554 : wE A527 Vs sb (2 * k + 3) (r440) (nd) (nd2_444) := wE_ag (by omega) (Sg_fr hF536 (by decide)) (Ag_pf hQ537 (by omega)) a478
                have sf555 : NdM A527 (nd) (nd2_444) (sy) := NdM_pf hQ537 (by omega) (by omega) a480
                have bat2_529 : (0 : Int) ≤ at2_529 ∧ at2_529 ≤ 3002 := e539 ▸ hW535.1 10
                have bfk2_530 : (0 : Int) ≤ fk2_530 ∧ fk2_530 ≤ 6 := e540 ▸ hW535.1 16
                have bop2_531 : (-2147483648 : Int) ≤ op2_531 ∧ op2_531 ≤ 2147483647 := e541 ▸ hW535.1 15
                have bnd2_532 : (0 : Int) ≤ nd2_532 ∧ nd2_532 ≤ 6999 := e542 ▸ hW535.1 31
                have ztk2_533 := tz_b tk2_533
                have btk2_533 : (0 : Int) ≤ tk2_533 ∧ tk2_533 ≤ 5 := e543 ▸ hW535.1 11
                refine .inr ⟨_, rfl, ?_⟩
                rcases q551 with ⟨a556, a557, a558, a559, a560, a561⟩ | ⟨a562, a563, a564⟩ | ⟨a565, a566, a567, a568, a569, a570⟩
                · have _q : True := trivial
                  exfalso
                  omega
                · have _q : True := trivial
                  refine jx_rt (v := some (.int (i32 (r528)))) rfl rfl rfl rfl rfl rfl ?_
                  have z571 := tz_f (tk2_533)
                  exact ⟨_, _, _, at2_529, fk2_530, op2_531, nd2_532, tk2_533, ec2_534, rfl, rfl, hW535, hF552, hP553, by omega, (e539), (e540), (e541), (e542), (e543), e544, by omega, by omega, by omega, by omega, by omega, by omega, by first | exact Or.inr (Or.inl (⟨by omega, by omega, by omega⟩))⟩
                · have _q : True := trivial
                  refine jx_rt (v := some (.int (i32 (r528)))) rfl rfl rfl rfl rfl rfl ?_
                  have z572 := tz_f (tk2_533)
                  exact ⟨_, _, _, at2_529, fk2_530, op2_531, nd2_532, tk2_533, ec2_534, rfl, rfl, hW535, hF552, hP553, by omega, (e539), (e540), (e541), (e542), (e543), e544, by omega, by omega, by omega, by omega, by omega, by omega, by first | exact Or.inr (Or.inr ((⟨by omega, by omega, by omega, (wE_mono (by omega) (by omega) (by omega) a568), by omega, (NdM_w (NdM_app (sy := sy) sf555 a570 (by omega) (by omega) (by omega)) (by omega) (by omega) (by omega)), by omega⟩)))⟩
            · have _q := h437
              exact absurd h437 (by omega)
    · have _q := h8
      exact absurd h8 (by omega)
set_option maxRecDepth 20000 in
set_option maxHeartbeats 4000000 in
theorem c_readE_0_w {X : jX} {dd : Nat} {Vs : Nat → Prop} {sb : Int} {c0 c1 : jC} {G : Nat → Int} {A : Nat → Nat → Int} {T : jH} {ln le at0 fk op0 nd tk0 ec sy : Int} (hd : 6 * 0 + 10 ≤ dd) (hW : Wk G A) (e_ln : G 9 = ln) (e_le : A 4 (ln).toNat = le) (e_at0 : G 10 = at0) (e_fk : G 16 = fk) (e_op0 : G 15 = op0) (e_nd : G 31 = nd) (e_tk0 : G 11 = tk0) (e_ec : ecn A (G 31) = ec) (e_sy : G 19 = sy) (i_SV : SV Vs sb G A) (p_0 : 0 ≤ op0) (p_1 : op0 ≤ 9) (p_2 : op0 ≤ 8 ∨ 1 ≤ fk) (p_3 : 9 - op0 ≤ ((0 : Nat) : Int) ∨ 1 ≤ fk) (p_4 : nd ≤ 2 * at0 - tz tk0 + 50) (p_5 : at0 ≤ le) : wk X dd 286 [.ref 66] (rV c0 c1 G A T) (fun o V' => ∃ (G' : Nat → Int) (A' : Nat → Nat → Int) (r : Int) (at2 : Int) (fk2 : Int) (op2 : Int) (nd2 : Int) (tk2 : Int) (ec2 : Int), V' = rV c0 c1 G' A' T ∧ o = .inl (some (.int (i32 r))) ∧ Wk G' A' ∧ Fr [10, 11, 12, 13, 14, 15, 16, 17, 18, 31] [15, 16, 17, 18, 19, 20, 21, 22, 24, 28] G A G' A' ∧ Pf nd A A' ∧ ((-2147483648 : Int) ≤ r ∧ r ≤ 2147483647) ∧ G' 10 = at2 ∧ G' 16 = fk2 ∧ G' 15 = op2 ∧ G' 31 = nd2 ∧ G' 11 = tk2 ∧ ecn A' (G' 31) = ec2 ∧ (at0 ≤ at2) ∧ (at2 ≤ le) ∧ (nd ≤ nd2) ∧ (op2 = op0) ∧ (0 ≤ r) ∧ (r ≤ nd2) ∧ (((1 ≤ fk) ∧ (1 ≤ fk2) ∧ (nd2 = nd) ∧ (at2 = at0) ∧ (tk2 = tk0) ∧ (tz tk2 = tz tk0)) ∨ ((fk = 0) ∧ (1 ≤ fk2) ∧ (nd2 - nd ≤ (2 * at2 - tz tk2) - (2 * at0 - tz tk0) + 1)) ∨ ((fk = 0) ∧ (fk2 = 0) ∧ (nd2 - nd ≤ (2 * at2 - tz tk2) - (2 * at0 - tz tk0)) ∧ (wE A' Vs sb (2 * 0 + 2) (r) (nd) (nd2)) ∧ (nd2 - nd + 5 * (ec2 - ec) ≤ (2 * at2 - tz tk2) - (2 * at0 - tz tk0) - tz tk2) ∧ (NdM A' (nd) (nd2) (sy)) ∧ (tz tk0 = 1)))) := by
  obtain ⟨d, rfl⟩ : ∃ d, dd = d + 1 := ⟨dd - 1, by omega⟩
  refine wk_of (e := jm286) rfl (Nat.le_of_ble_eq_true rfl) ?_
  show wj X d jm286 (0, [(0, .ref 66)], [], rV c0 c1 G A T) _
  have hF0 : Fr [10, 11, 12, 13, 14, 15, 16, 17, 18, 31] [15, 16, 17, 18, 19, 20, 21, 22, 24, 28] G A G A := Fr_rf
  have hP0 : Pf nd A A := Pf_rf
  have b_ln : (0 : Int) ≤ ln ∧ ln ≤ 3000 := e_ln ▸ hW.1 9
  have b_le : (0 : Int) ≤ le ∧ le ≤ 3000 := e_le ▸ hW.2 4 _
  have b_at0 : (0 : Int) ≤ at0 ∧ at0 ≤ 3002 := e_at0 ▸ hW.1 10
  have b_fk : (0 : Int) ≤ fk ∧ fk ≤ 6 := e_fk ▸ hW.1 16
  have b_op0 : (-2147483648 : Int) ≤ op0 ∧ op0 ≤ 2147483647 := e_op0 ▸ hW.1 15
  have b_nd : (0 : Int) ≤ nd ∧ nd ≤ 6999 := e_nd ▸ hW.1 31
  have z_tk0 := tz_f tk0
  have b_tk0 : (0 : Int) ≤ tk0 ∧ tk0 ≤ 5 := e_tk0 ▸ hW.1 11
  have b_sy : (0 : Int) ≤ sy ∧ sy ≤ 202 := e_sy ▸ hW.1 19
  refine jx_ld (pc' := 1) (l' := [(0, .ref 66)]) (st' := [.ref 66]) rfl (jl_aloadn rfl) ?_
  refine jx_vr (pc' := 4) (as := []) (st := []) rfl rfl rfl rfl ⟨rfl, rfl, Nat.le_of_ble_eq_true rfl⟩ rfl rfl (c_bad (dd := d) (hd := by omega) (hW := hW)  (fk := fk) (e_fk := show G 16 = fk from (e_fk))    ) (fun o V' hq => ?_)
  obtain ⟨r1, rfl, rfl, b2, q3⟩ := hq
  refine .inr ⟨_, rfl, ?_⟩
  rcases q3 with ⟨rfl, a4⟩ | ⟨rfl, a5⟩
  · have _q : True := trivial
    refine jx_if_eq (pc' := 7) (tg := 9) rfl rfl rfl (by decide) (by decide) (fun h6 => ?_) (fun h6 => ?_)
    · have _q := h6
      exact absurd h6 (by omega)
    · have _q := h6
      refine jx_ar (pc' := 8) (st' := [.int (i32 (0))]) rfl rfl rfl rfl ?_
      refine jx_rt (v := some (.int (i32 (0)))) rfl rfl rfl rfl rfl rfl ?_
      have z7 := tz_f (tk0)
      exact ⟨_, _, _, at0, fk, op0, nd, tk0, ec, rfl, rfl, hW, hF0, hP0, by omega, (e_at0), (e_fk), (e_op0), (e_nd), (e_tk0), e_ec, by omega, by omega, by omega, by omega, by omega, by omega, by first | exact Or.inl (⟨by omega, by omega, by omega, by omega, by omega, by omega⟩)⟩
  · have _q : True := trivial
    refine jx_if_eq (pc' := 7) (tg := 9) rfl rfl rfl (by decide) (by decide) (fun h8 => ?_) (fun h8 => ?_)
    · have _q := h8
      exfalso
      omega
    · have _q := h8
      exact absurd h8 (by omega)
theorem REw_all (X : jX) : ∀ k, REw X k
  | 0 => @c_readE_0_w X
  | k + 1 => @c_readE_s_w X k (REw_all X k)

