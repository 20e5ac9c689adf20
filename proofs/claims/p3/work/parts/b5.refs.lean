set_option maxRecDepth 20000 in
set_option maxHeartbeats 4000000 in
theorem c_readBehind_w {X : jX} {dd : Nat} {Vs : Nat → Prop} {sb : Int} {c0 c1 : jC} {G : Nat → Int} {A : Nat → Nat → Int} {T : jH} {s place ch : Int} {ln le at0 fk op0 nd tk0 ec sy : Int} (hd : 67 ≤ dd) (hW : Wk G A) (e_ln : G 9 = ln) (e_le : A 4 (ln).toNat = le) (e_at0 : G 10 = at0) (e_fk : G 16 = fk) (e_op0 : G 15 = op0) (e_nd : G 31 = nd) (e_tk0 : G 11 = tk0) (e_ec : ecn A (G 31) = ec) (e_sy : G 19 = sy) (i_SV : SV Vs sb G A) (h_s : (-2147483648 : Int) ≤ s ∧ s ≤ 2147483647) (h_place : (-2147483648 : Int) ≤ place ∧ place ≤ 2147483647) (h_ch : (0 : Int) ≤ ch ∧ ch ≤ 1) (p_0 : 0 ≤ op0) (p_1 : op0 ≤ 9) (p_2 : op0 ≤ 8 ∨ 1 ≤ fk) (p_3 : nd ≤ 2 * at0 - tz tk0 + 50) (p_4 : at0 ≤ le) (p_5 : op0 ≤ 8) (p_6 : fk = 0) (p_7 : 0 ≤ s ∧ s ≤ 201) (p_8 : -3000 ≤ place ∧ place ≤ 3002) (p_9 : SY Vs sb (s)) : wk X dd 291 [.ref 66, .int (i32 s), .int (i32 place), .int (i32 ch)] (rV c0 c1 G A T) (fun o V_q => ∃ (G_q : Nat → Int) (A_q : Nat → Nat → Int) (r : Int) (at2 : Int) (fk2 : Int) (op2 : Int) (nd2 : Int) (tk2 : Int) (ec2 : Int), V_q = rV c0 c1 G_q A_q T ∧ o = .inl (some (.int (i32 r))) ∧ Wk G_q A_q ∧ Fr [10, 11, 12, 13, 14, 15, 16, 17, 18, 31] [15, 16, 17, 18, 19, 20, 21, 22, 24, 28] G A G_q A_q ∧ Pf nd A A_q ∧ ((-2147483648 : Int) ≤ r ∧ r ≤ 2147483647) ∧ G_q 10 = at2 ∧ G_q 16 = fk2 ∧ G_q 15 = op2 ∧ G_q 31 = nd2 ∧ G_q 11 = tk2 ∧ ecn A_q (G_q 31) = ec2 ∧ (at0 ≤ at2) ∧ (at2 ≤ le) ∧ (nd ≤ nd2) ∧ (op2 = op0) ∧ (0 ≤ r) ∧ (r ≤ nd2) ∧ (((fk = 0) ∧ (1 ≤ fk2) ∧ (nd2 - nd ≤ (2 * at2 - tz tk2) - (2 * at0 - tz tk0) + 2)) ∨ ((fk = 0) ∧ (fk2 = 0) ∧ (nd2 - nd ≤ (2 * at2 - tz tk2) - (2 * at0 - tz tk0) + 1) ∧ (wR A_q Vs sb (20) (ch) (r) (nd) (nd2)) ∧ (nd2 - nd + 5 * (ec2 - ec) ≤ (2 * at2 - tz tk2) - (2 * at0 - tz tk0) + 1 + tz tk0 - tz tk2) ∧ (NdM A_q (nd) (nd2) (sy))))) := by
  obtain ⟨d, rfl⟩ : ∃ d, dd = d + 1 := ⟨dd - 1, by omega⟩
  refine wk_of (e := jm291) rfl (Nat.le_of_ble_eq_true rfl) ?_
  show wj X d jm291 (0, [(0, .ref 66), (1, .int (i32 (s))), (2, .int (i32 (place))), (3, .int (i32 (ch)))], [], rV c0 c1 G A T) _
  have hF0 : Fr [10, 11, 12, 13, 14, 15, 16, 17, 18, 31] [15, 16, 17, 18, 19, 20, 21, 22, 24, 28] G A G A := Fr_rf
  have hP0 : Pf nd A A := Pf_rf
  have b_ln : (0 : Int) ≤ ln ∧ ln ≤ 3000 := e_ln ▸ hW.1 9
  have b_le : (0 : Int) ≤ le ∧ le ≤ 3000 := e_le ▸ hW.2 4 _
  have b_at0 : (0 : Int) ≤ at0 ∧ at0 ≤ 3002 := e_at0 ▸ hW.1 10
  have b_fk : (0 : Int) ≤ fk ∧ fk ≤ 6 := e_fk ▸ hW.1 16
  have b_op0 : (-2147483648 : Int) ≤ op0 ∧ op0 ≤ 2147483647 := e_op0 ▸ hW.1 15
  have b_nd : (0 : Int) ≤ nd ∧ nd ≤ 6999 := e_nd ▸ hW.1 31
  have z_tk0 := tz_f tk0
  have b_tk0 : (0 : Int) ≤ tk0 ∧ tk0 ≤ 5 := e_tk0 ▸ hW.1 11
  have b_sy : (0 : Int) ≤ sy ∧ sy ≤ 202 := e_sy ▸ hW.1 19
  refine jx_ld (pc_q := 1) (l_q := [(0, .ref 66), (1, .int (i32 (s))), (2, .int (i32 (place))), (3, .int (i32 (ch)))]) (st_q := [.ref 66]) rfl (jl_aloadn rfl) ?_
  refine jr_get (pc_q := 4) (i := 21) (v := .ref 74) rfl rfl (by decide) rfl rfl ?_
  refine jx_ld (pc_q := 5) (l_q := [(0, .ref 66), (1, .int (i32 (s))), (2, .int (i32 (place))), (3, .int (i32 (ch)))]) (st_q := [.int (i32 (s)), .ref 74]) rfl (jl_iloadn rfl) ?_
  have b1 : (0 : Int) ≤ A 7 (s).toNat ∧ A 7 (s).toNat ≤ 14 := hW.2 7 _
  refine jr_ldv (pc_q := 6) (i := 7) (m := 260) (z := s) (y := A 7 (s).toNat) rfl (by decide) rfl (by decide) (by omega) (by omega) rfl (show A 7 (s).toNat = A 7 (s).toNat from rfl) ?_
  refine jx_ld (pc_q := 8) (l_q := jSto1 [(0, .ref 66), (1, .int (i32 (s))), (2, .int (i32 (place))), (3, .int (i32 (ch)))] 4 (.int (i32 (A 7 (s).toNat)))) (st_q := []) rfl rfl ?_
  obtain ⟨L2, eL2⟩ : ∃ q, q = jSto1 [(0, .ref 66), (1, .int (i32 (s))), (2, .int (i32 (place))), (3, .int (i32 (ch)))] 4 (.int (i32 (A 7 (s).toNat))) := ⟨_, rfl⟩
  rw [← eL2]
  have gL2_0 : jGet L2 0 = some (.ref 66) := eL2 ▸ jg_ne (by decide) (rfl : jGet [(0, .ref 66), (1, .int (i32 (s))), (2, .int (i32 (place))), (3, .int (i32 (ch)))] 0 = some (.ref 66)) rfl
  have gL2_1 : jGet L2 1 = some (.int (i32 (s))) := eL2 ▸ jg_ne (by decide) (rfl : jGet [(0, .ref 66), (1, .int (i32 (s))), (2, .int (i32 (place))), (3, .int (i32 (ch)))] 1 = some (.int (i32 (s)))) rfl
  have gL2_2 : jGet L2 2 = some (.int (i32 (place))) := eL2 ▸ jg_ne (by decide) (rfl : jGet [(0, .ref 66), (1, .int (i32 (s))), (2, .int (i32 (place))), (3, .int (i32 (ch)))] 2 = some (.int (i32 (place)))) rfl
  have gL2_3 : jGet L2 3 = some (.int (i32 (ch))) := eL2 ▸ jg_ne (by decide) (rfl : jGet [(0, .ref 66), (1, .int (i32 (s))), (2, .int (i32 (place))), (3, .int (i32 (ch)))] 3 = some (.int (i32 (ch)))) rfl
  have gL2_4 : jGet L2 4 = some (.int (i32 (A 7 (s).toNat))) := eL2 ▸ jg_eq
  refine jx_ld (pc_q := 9) (l_q := L2) (st_q := [.ref 66]) rfl (jl_aloadn gL2_0) ?_
  refine jx_ar (pc_q := 11) (st_q := [.int (i32 (91)), .ref 66]) rfl rfl rfl rfl ?_
  have b3 : (-2147483648 : Int) ≤ G 13 ∧ G 13 ≤ 2147483647 := hW.1 13
  refine jx_vr (pc_q := 14) (as := [.int (i32 (91))]) (st := []) rfl rfl rfl rfl ⟨rfl, rfl, Nat.le_of_ble_eq_true rfl⟩ rfl rfl (c_is (dd := d) (hd := by omega) (hW := hW) (k := 91) (tk := tk0) (e_tk := show G 11 = tk0 from (e_tk0)) (tn := G 13) (e_tn := show G 13 = G 13 from rfl)  (h_k := ⟨(by decide), (by decide)⟩)  ) (fun o V_q hq => ?_)
  obtain ⟨r4, rfl, rfl, b5, q6⟩ := hq
  refine .inr ⟨_, rfl, ?_⟩
  rcases q6 with ⟨rfl, a7, a8, a9⟩ | rfl
  · have _q : True := trivial
    refine jx_if_eq (pc_q := 17) (tg := 63) rfl rfl rfl (by decide) (by decide) (fun h10 => ?_) (fun h10 => ?_)
    · have _q := h10
      exact absurd h10 (by omega)
    · have _q := h10
      refine jx_ld (pc_q := 18) (l_q := L2) (st_q := [.int (i32 (ch))]) rfl (jl_iloadn gL2_3) ?_
      refine jx_if_eq (pc_q := 21) (tg := 30) rfl rfl rfl (Int.le_trans (by decide : (-2147483648 : Int) ≤ 0) h_ch.1) (Int.le_trans h_ch.2 (by decide : (1 : Int) ≤ 2147483647)) (fun h11 => ?_) (fun h11 => ?_)
      · have _q := h11
        refine jx_ld (pc_q := 32) (l_q := L2) (st_q := [.int (i32 (A 7 (s).toNat))]) rfl (jl_iload gL2_4) ?_
        refine jx_st (pc_q := 35) (as := [.int (i32 (A 7 (s).toNat))]) (st := []) rfl rfl ⟨rfl, Nat.le_of_ble_eq_true rfl⟩ rfl rfl rfl (c_isArray (dd := d) (hd := by omega) (k := A 7 (s).toNat)   (h_k := ⟨(Int.le_trans (by decide : (-2147483648 : Int) ≤ 0) b1.1), (Int.le_trans b1.2 (by decide : (14 : Int) ≤ 2147483647))⟩)  ) (fun o V_q hq => ?_)
        obtain ⟨r12, rfl, rfl, b13, q14⟩ := hq
        refine .inr ⟨_, rfl, ?_⟩
        rcases q14 with ⟨rfl, a15⟩ | rfl
        · have _q : True := trivial
          refine jx_if_ne (pc_q := 38) (tg := 46) rfl rfl rfl (by decide) (by decide) (fun h16 => ?_) (fun h16 => ?_)
          · have _q := h16
            refine jx_ld (pc_q := 47) (l_q := L2) (st_q := [.ref 66]) rfl (jl_aloadn gL2_0) ?_
            refine jx_vr (pc_q := 50) (as := []) (st := []) rfl rfl rfl rfl ⟨rfl, rfl, Nat.le_of_ble_eq_true rfl⟩ rfl rfl (c_readIndex_w (dd := d) (k := 9) (hE := REw_all X 9) (hd := by omega) (hW := hW)  (ln := ln) (e_ln := show G 9 = ln from (e_ln)) (le := le) (e_le := show A 4 (ln).toNat = le from (e_le)) (at0 := at0) (e_at0 := show G 10 = at0 from (e_at0)) (fk := fk) (e_fk := show G 16 = fk from (e_fk)) (op0 := op0) (e_op0 := show G 15 = op0 from (e_op0)) (nd := nd) (e_nd := show G 31 = nd from (e_nd)) (tk0 := tk0) (e_tk0 := show G 11 = tk0 from (e_tk0)) (ec := ec) (e_ec := show ecn A (G 31) = ec from e_ec) (sy := sy) (e_sy := show G 19 = sy from (e_sy)) (i_SV := (SV_ext (rfl) (rfl) i_SV))   (p_0 := by omega) (p_1 := by omega) (p_2 := by omega) (p_3 := by omega) (p_4 := by omega) (p_5 := by omega) (p_6 := by omega) (p_7 := by omega) (p_8 := by omega)) (fun o V_q hq => ?_)
            obtain ⟨G17, A18, r19, at2_20, fk2_21, op2_22, nd2_23, tk2_24, ec2_25, rfl, rfl, hW26, hF27, hQ28, b29, e30, e31, e32, e33, e34, e35, p36, p37, p38, p39, p40, p41, q42⟩ := hq
            have hF43 := Fr_tr hF0 hF27 (Fr_sub (by decide)) (Fr_sub (by decide))
            have hP44 := Pf_tr hP0 hQ28 (by omega)
            have bat2_20 : (0 : Int) ≤ at2_20 ∧ at2_20 ≤ 3002 := e30 ▸ hW26.1 10
            have bfk2_21 : (0 : Int) ≤ fk2_21 ∧ fk2_21 ≤ 6 := e31 ▸ hW26.1 16
            have bop2_22 : (-2147483648 : Int) ≤ op2_22 ∧ op2_22 ≤ 2147483647 := e32 ▸ hW26.1 15
            have bnd2_23 : (0 : Int) ≤ nd2_23 ∧ nd2_23 ≤ 6999 := e33 ▸ hW26.1 31
            have ztk2_24 := tz_b tk2_24
            have btk2_24 : (0 : Int) ≤ tk2_24 ∧ tk2_24 ≤ 5 := e34 ▸ hW26.1 11
            refine .inr ⟨_, rfl, ?_⟩
            rcases q42 with ⟨a45, a46, a47⟩ | ⟨a48, a49, a50, a51, a52, a53, a54⟩
            · have _q : True := trivial
              refine jx_ld (pc_q := 52) (l_q := jSto1 L2 5 (.int (i32 (r19)))) (st_q := []) rfl rfl ?_
              obtain ⟨L55, eL55⟩ : ∃ q, q = jSto1 L2 5 (.int (i32 (r19))) := ⟨_, rfl⟩
              rw [← eL55]
              have gL55_0 : jGet L55 0 = some (.ref 66) := eL55 ▸ jg_ne (by decide) gL2_0 rfl
              have gL55_1 : jGet L55 1 = some (.int (i32 (s))) := eL55 ▸ jg_ne (by decide) gL2_1 rfl
              have gL55_2 : jGet L55 2 = some (.int (i32 (place))) := eL55 ▸ jg_ne (by decide) gL2_2 rfl
              have gL55_3 : jGet L55 3 = some (.int (i32 (ch))) := eL55 ▸ jg_ne (by decide) gL2_3 rfl
              have gL55_4 : jGet L55 4 = some (.int (i32 (A 7 (s).toNat))) := eL55 ▸ jg_ne (by decide) gL2_4 rfl
              have gL55_5 : jGet L55 5 = some (.int (i32 (r19))) := eL55 ▸ jg_eq
              refine jx_ld (pc_q := 53) (l_q := L55) (st_q := [.ref 66]) rfl (jl_aloadn gL55_0) ?_
              refine jx_ar (pc_q := 54) (st_q := [.int (i32 (3)), .ref 66]) rfl rfl rfl rfl ?_
              refine jx_ld (pc_q := 55) (l_q := L55) (st_q := [.int (i32 (s)), .int (i32 (3)), .ref 66]) rfl (jl_iloadn gL55_1) ?_
              refine jx_ld (pc_q := 57) (l_q := L55) (st_q := [.int (i32 (r19)), .int (i32 (s)), .int (i32 (3)), .ref 66]) rfl (jl_iload gL55_5) ?_
              refine jx_ar (pc_q := 58) (st_q := [.int (i32 (0)), .int (i32 (r19)), .int (i32 (s)), .int (i32 (3)), .ref 66]) rfl rfl rfl rfl ?_
              refine jx_ar (pc_q := 59) (st_q := [.int (i32 (0)), .int (i32 (0)), .int (i32 (r19)), .int (i32 (s)), .int (i32 (3)), .ref 66]) rfl rfl rfl rfl ?_
              refine jx_vr (pc_q := 62) (as := [.int (i32 (3)), .int (i32 (s)), .int (i32 (r19)), .int (i32 (0)), .int (i32 (0))]) (st := []) rfl rfl rfl rfl ⟨rfl, rfl, Nat.le_of_ble_eq_true rfl⟩ rfl rfl (c_node_e (dd := d) (hd := by omega) (hW := hW26) (kind := 3) (a := s) (b := r19) (c := 0) (e := 0) (nd := nd2_23) (e_nd := show G17 31 = nd2_23 from (e33)) (ec := ec2_25) (e_ec := show ecn A18 (G17 31) = ec2_25 from e35) (sy := sy) (e_sy := show G17 19 = sy from ((hF27.1 19 rfl).trans (e_sy))) (fk := fk2_21) (e_fk := show G17 16 = fk2_21 from (e31))  (h_kind := ⟨(by decide), (by decide)⟩) (h_a := ⟨(Int.le_trans (by decide : (-2147483648 : Int) ≤ -2147483648) h_s.1), (Int.le_trans h_s.2 (by decide : (2147483647 : Int) ≤ 2147483647))⟩) (h_b := ⟨(Int.le_trans (by decide : (-2147483648 : Int) ≤ -2147483648) b29.1), (Int.le_trans b29.2 (by decide : (2147483647 : Int) ≤ 2147483647))⟩) (h_c := ⟨(by decide), (by decide)⟩) (h_e := ⟨(by decide), (by decide)⟩)  (p_0 := by omega) (p_1 := by omega) (p_2 := by omega) (p_3 := by omega)) (fun o V_q hq => ?_)
              obtain ⟨G56, A57, nd2_58, ec2_59, rfl, rfl, hW60, hF61, hQ62, e63, e64, p65, p66, p67, p68, -⟩ := hq
              have hF70 := Fr_tr hF43 hF61 (Fr_sub (by decide)) (Fr_sub (by decide))
              have hP71 := Pf_tr hP44 hQ62 (by omega)
              have bnd2_58 : (0 : Int) ≤ nd2_58 ∧ nd2_58 ≤ 6999 := e63 ▸ hW60.1 31
              refine .inr ⟨_, rfl, ?_⟩
              refine jx_rt (v := some (.int (i32 (nd2_23)))) rfl rfl rfl rfl rfl rfl ?_
              have z72 := tz_f (tk2_24)
              exact ⟨_, _, _, at2_20, fk2_21, op2_22, nd2_58, tk2_24, ec2_59, rfl, rfl, hW60, hF70, hP71, by omega, ((hF61.1 10 rfl).trans (e30)), ((hF61.1 16 rfl).trans (e31)), ((hF61.1 15 rfl).trans (e32)), (e63), ((hF61.1 11 rfl).trans (e34)), e64, by omega, by omega, by omega, by omega, by omega, by omega, by first | exact Or.inl (⟨by omega, by omega, by omega⟩)⟩
            · have _q : True := trivial
              refine jx_ld (pc_q := 52) (l_q := jSto1 L2 5 (.int (i32 (r19)))) (st_q := []) rfl rfl ?_
              obtain ⟨L73, eL73⟩ : ∃ q, q = jSto1 L2 5 (.int (i32 (r19))) := ⟨_, rfl⟩
              rw [← eL73]
              have gL73_0 : jGet L73 0 = some (.ref 66) := eL73 ▸ jg_ne (by decide) gL2_0 rfl
              have gL73_1 : jGet L73 1 = some (.int (i32 (s))) := eL73 ▸ jg_ne (by decide) gL2_1 rfl
              have gL73_2 : jGet L73 2 = some (.int (i32 (place))) := eL73 ▸ jg_ne (by decide) gL2_2 rfl
              have gL73_3 : jGet L73 3 = some (.int (i32 (ch))) := eL73 ▸ jg_ne (by decide) gL2_3 rfl
              have gL73_4 : jGet L73 4 = some (.int (i32 (A 7 (s).toNat))) := eL73 ▸ jg_ne (by decide) gL2_4 rfl
              have gL73_5 : jGet L73 5 = some (.int (i32 (r19))) := eL73 ▸ jg_eq
              refine jx_ld (pc_q := 53) (l_q := L73) (st_q := [.ref 66]) rfl (jl_aloadn gL73_0) ?_
              refine jx_ar (pc_q := 54) (st_q := [.int (i32 (3)), .ref 66]) rfl rfl rfl rfl ?_
              refine jx_ld (pc_q := 55) (l_q := L73) (st_q := [.int (i32 (s)), .int (i32 (3)), .ref 66]) rfl (jl_iloadn gL73_1) ?_
              refine jx_ld (pc_q := 57) (l_q := L73) (st_q := [.int (i32 (r19)), .int (i32 (s)), .int (i32 (3)), .ref 66]) rfl (jl_iload gL73_5) ?_
              refine jx_ar (pc_q := 58) (st_q := [.int (i32 (0)), .int (i32 (r19)), .int (i32 (s)), .int (i32 (3)), .ref 66]) rfl rfl rfl rfl ?_
              refine jx_ar (pc_q := 59) (st_q := [.int (i32 (0)), .int (i32 (0)), .int (i32 (r19)), .int (i32 (s)), .int (i32 (3)), .ref 66]) rfl rfl rfl rfl ?_
              refine jx_vr (pc_q := 62) (as := [.int (i32 (3)), .int (i32 (s)), .int (i32 (r19)), .int (i32 (0)), .int (i32 (0))]) (st := []) rfl rfl rfl rfl ⟨rfl, rfl, Nat.le_of_ble_eq_true rfl⟩ rfl rfl (c_node_e (dd := d) (hd := by omega) (hW := hW26) (kind := 3) (a := s) (b := r19) (c := 0) (e := 0) (nd := nd2_23) (e_nd := show G17 31 = nd2_23 from (e33)) (ec := ec2_25) (e_ec := show ecn A18 (G17 31) = ec2_25 from e35) (sy := sy) (e_sy := show G17 19 = sy from ((hF27.1 19 rfl).trans (e_sy))) (fk := fk2_21) (e_fk := show G17 16 = fk2_21 from (e31))  (h_kind := ⟨(by decide), (by decide)⟩) (h_a := ⟨(Int.le_trans (by decide : (-2147483648 : Int) ≤ -2147483648) h_s.1), (Int.le_trans h_s.2 (by decide : (2147483647 : Int) ≤ 2147483647))⟩) (h_b := ⟨(Int.le_trans (by decide : (-2147483648 : Int) ≤ -2147483648) b29.1), (Int.le_trans b29.2 (by decide : (2147483647 : Int) ≤ 2147483647))⟩) (h_c := ⟨(by decide), (by decide)⟩) (h_e := ⟨(by decide), (by decide)⟩)  (p_0 := by omega) (p_1 := by omega) (p_2 := by omega) (p_3 := by omega)) (fun o V_q hq => ?_)
              obtain ⟨G74, A75, nd2_76, ec2_77, rfl, rfl, hW78, hF79, hQ80, e81, e82, p83, p84, p85, p86, -⟩ := hq
              have hF88 := Fr_tr hF43 hF79 (Fr_sub (by decide)) (Fr_sub (by decide))
              have hP89 := Pf_tr hP44 hQ80 (by omega)
              have sf90 : wE A75 Vs sb (2 * 9 + 2) (r19) (nd) (nd2_23) := wE_ag (by omega) (Sg_fr hF79 (by decide)) (Ag_pf hQ80 (by omega)) a51
              have sf91 : NdM A75 (nd) (nd2_23) (sy) := NdM_pf hQ80 (by omega) (by omega) a53
              have bnd2_76 : (0 : Int) ≤ nd2_76 ∧ nd2_76 ≤ 6999 := e81 ▸ hW78.1 31
              refine .inr ⟨_, rfl, ?_⟩
              refine jx_rt (v := some (.int (i32 (nd2_23)))) rfl rfl rfl rfl rfl rfl ?_
              have z92 := tz_f (tk2_24)
              exact ⟨_, _, _, at2_20, fk2_21, op2_22, nd2_76, tk2_24, ec2_77, rfl, rfl, hW78, hF88, hP89, by omega, ((hF79.1 10 rfl).trans (e30)), ((hF79.1 16 rfl).trans (e31)), ((hF79.1 15 rfl).trans (e32)), (e81), ((hF79.1 11 rfl).trans (e34)), e82, by omega, by omega, by omega, by omega, by omega, by omega, by first | exact Or.inr ((⟨by omega, by omega, by omega, (wR_elem p85 (by omega) (by omega) p_9 (kq (P := kRow (ch)) (show A75 7 (s).toNat = A 7 (s).toNat from (congrFun ((hF79.2 7 rfl).trans (hF27.2 7 rfl)) _)) (by first | exact .inl ⟨by omega, a15⟩ | exact .inr ⟨by omega, by omega⟩)) (wE_mono (by omega) (by omega) (by omega) sf90)), by omega, (NdM_w (NdM_app (sy := sy) sf91 (p86 (by omega)) (by omega) (by omega) (by omega)) (by omega) (by omega) (by omega))⟩))⟩
          · have _q := h16
            exact absurd h16 (by omega)
        · have _q : True := trivial
          refine jx_if_ne (pc_q := 38) (tg := 46) rfl rfl rfl (by decide) (by decide) (fun h93 => ?_) (fun h93 => ?_)
          · have _q := h93
            exact absurd h93 (by omega)
          · have _q := h93
            refine jx_ld (pc_q := 39) (l_q := L2) (st_q := [.ref 66]) rfl (jl_aloadn gL2_0) ?_
            refine jx_ar (pc_q := 40) (st_q := [.int (i32 (4)), .ref 66]) rfl rfl rfl rfl ?_
            refine jx_ld (pc_q := 41) (l_q := L2) (st_q := [.int (i32 (place)), .int (i32 (4)), .ref 66]) rfl (jl_iloadn gL2_2) ?_
            refine jx_vr (pc_q := 44) (as := [.int (i32 (4)), .int (i32 (place))]) (st := []) rfl rfl rfl rfl ⟨rfl, rfl, Nat.le_of_ble_eq_true rfl⟩ rfl rfl (c_fail (dd := d) (hd := by omega) (hW := hW) (kind := 4) (place := place) (fk := fk) (e_fk := show G 16 = fk from (e_fk))  (h_kind := ⟨(by decide), (by decide)⟩) (h_place := ⟨(Int.le_trans (by decide : (-2147483648 : Int) ≤ -2147483648) h_place.1), (Int.le_trans h_place.2 (by decide : (2147483647 : Int) ≤ 2147483647))⟩)  (p_0 := by omega) (p_1 := by omega)) (fun o V_q hq => ?_)
            obtain ⟨G94, A95, fk2_96, rfl, rfl, hW97, hF98, e99, p100, -⟩ := hq
            have hF102 := Fr_tr hF0 hF98 (Fr_sub (by decide)) (Fr_sub (by decide))
            have hP103 := Pf_f hP0 hF98 (by decide)
            have ec104 : ecn A95 (G94 31) = ec := (ecn_f (hF98.2 15 rfl) (hF98.1 31 rfl)).trans e_ec
            have bfk2_96 : (0 : Int) ≤ fk2_96 ∧ fk2_96 ≤ 6 := e99 ▸ hW97.1 16
            refine .inl ⟨rfl, ?_⟩
            refine jx_ar (pc_q := 45) (st_q := [.int (i32 (0))]) rfl rfl rfl rfl ?_
            refine jx_rt (v := some (.int (i32 (0)))) rfl rfl rfl rfl rfl rfl ?_
            have z105 := tz_f (tk0)
            exact ⟨_, _, _, at0, fk2_96, op0, nd, tk0, ec, rfl, rfl, hW97, hF102, hP103, by omega, ((hF98.1 10 rfl).trans (e_at0)), (e99), ((hF98.1 15 rfl).trans (e_op0)), ((hF98.1 31 rfl).trans (e_nd)), ((hF98.1 11 rfl).trans (e_tk0)), ec104, by omega, by omega, by omega, by omega, by omega, by omega, by first | exact Or.inl (⟨by omega, by omega, by omega⟩)⟩
      · have _q := h11
        refine jx_ld (pc_q := 23) (l_q := L2) (st_q := [.int (i32 (A 7 (s).toNat))]) rfl (jl_iload gL2_4) ?_
        refine jx_ar (pc_q := 24) (st_q := [.int (i32 (4)), .int (i32 (A 7 (s).toNat))]) rfl rfl rfl rfl ?_
        refine jx_icmp_eq (pc_q := 27) (tg := 46) rfl rfl rfl (Int.le_trans (by decide : (-2147483648 : Int) ≤ 0) b1.1) (Int.le_trans b1.2 (by decide : (14 : Int) ≤ 2147483647)) (by decide) (by decide) (fun h106 => ?_) (fun h106 => ?_)
        · have _q := h106
          refine jx_ld (pc_q := 47) (l_q := L2) (st_q := [.ref 66]) rfl (jl_aloadn gL2_0) ?_
          refine jx_vr (pc_q := 50) (as := []) (st := []) rfl rfl rfl rfl ⟨rfl, rfl, Nat.le_of_ble_eq_true rfl⟩ rfl rfl (c_readIndex_w (dd := d) (k := 9) (hE := REw_all X 9) (hd := by omega) (hW := hW)  (ln := ln) (e_ln := show G 9 = ln from (e_ln)) (le := le) (e_le := show A 4 (ln).toNat = le from (e_le)) (at0 := at0) (e_at0 := show G 10 = at0 from (e_at0)) (fk := fk) (e_fk := show G 16 = fk from (e_fk)) (op0 := op0) (e_op0 := show G 15 = op0 from (e_op0)) (nd := nd) (e_nd := show G 31 = nd from (e_nd)) (tk0 := tk0) (e_tk0 := show G 11 = tk0 from (e_tk0)) (ec := ec) (e_ec := show ecn A (G 31) = ec from e_ec) (sy := sy) (e_sy := show G 19 = sy from (e_sy)) (i_SV := (SV_ext (rfl) (rfl) i_SV))   (p_0 := by omega) (p_1 := by omega) (p_2 := by omega) (p_3 := by omega) (p_4 := by omega) (p_5 := by omega) (p_6 := by omega) (p_7 := by omega) (p_8 := by omega)) (fun o V_q hq => ?_)
          obtain ⟨G107, A108, r109, at2_110, fk2_111, op2_112, nd2_113, tk2_114, ec2_115, rfl, rfl, hW116, hF117, hQ118, b119, e120, e121, e122, e123, e124, e125, p126, p127, p128, p129, p130, p131, q132⟩ := hq
          have hF133 := Fr_tr hF0 hF117 (Fr_sub (by decide)) (Fr_sub (by decide))
          have hP134 := Pf_tr hP0 hQ118 (by omega)
          have bat2_110 : (0 : Int) ≤ at2_110 ∧ at2_110 ≤ 3002 := e120 ▸ hW116.1 10
          have bfk2_111 : (0 : Int) ≤ fk2_111 ∧ fk2_111 ≤ 6 := e121 ▸ hW116.1 16
          have bop2_112 : (-2147483648 : Int) ≤ op2_112 ∧ op2_112 ≤ 2147483647 := e122 ▸ hW116.1 15
          have bnd2_113 : (0 : Int) ≤ nd2_113 ∧ nd2_113 ≤ 6999 := e123 ▸ hW116.1 31
          have ztk2_114 := tz_b tk2_114
          have btk2_114 : (0 : Int) ≤ tk2_114 ∧ tk2_114 ≤ 5 := e124 ▸ hW116.1 11
          refine .inr ⟨_, rfl, ?_⟩
          rcases q132 with ⟨a135, a136, a137⟩ | ⟨a138, a139, a140, a141, a142, a143, a144⟩
          · have _q : True := trivial
            refine jx_ld (pc_q := 52) (l_q := jSto1 L2 5 (.int (i32 (r109)))) (st_q := []) rfl rfl ?_
            obtain ⟨L145, eL145⟩ : ∃ q, q = jSto1 L2 5 (.int (i32 (r109))) := ⟨_, rfl⟩
            rw [← eL145]
            have gL145_0 : jGet L145 0 = some (.ref 66) := eL145 ▸ jg_ne (by decide) gL2_0 rfl
            have gL145_1 : jGet L145 1 = some (.int (i32 (s))) := eL145 ▸ jg_ne (by decide) gL2_1 rfl
            have gL145_2 : jGet L145 2 = some (.int (i32 (place))) := eL145 ▸ jg_ne (by decide) gL2_2 rfl
            have gL145_3 : jGet L145 3 = some (.int (i32 (ch))) := eL145 ▸ jg_ne (by decide) gL2_3 rfl
            have gL145_4 : jGet L145 4 = some (.int (i32 (A 7 (s).toNat))) := eL145 ▸ jg_ne (by decide) gL2_4 rfl
            have gL145_5 : jGet L145 5 = some (.int (i32 (r109))) := eL145 ▸ jg_eq
            refine jx_ld (pc_q := 53) (l_q := L145) (st_q := [.ref 66]) rfl (jl_aloadn gL145_0) ?_
            refine jx_ar (pc_q := 54) (st_q := [.int (i32 (3)), .ref 66]) rfl rfl rfl rfl ?_
            refine jx_ld (pc_q := 55) (l_q := L145) (st_q := [.int (i32 (s)), .int (i32 (3)), .ref 66]) rfl (jl_iloadn gL145_1) ?_
            refine jx_ld (pc_q := 57) (l_q := L145) (st_q := [.int (i32 (r109)), .int (i32 (s)), .int (i32 (3)), .ref 66]) rfl (jl_iload gL145_5) ?_
            refine jx_ar (pc_q := 58) (st_q := [.int (i32 (0)), .int (i32 (r109)), .int (i32 (s)), .int (i32 (3)), .ref 66]) rfl rfl rfl rfl ?_
            refine jx_ar (pc_q := 59) (st_q := [.int (i32 (0)), .int (i32 (0)), .int (i32 (r109)), .int (i32 (s)), .int (i32 (3)), .ref 66]) rfl rfl rfl rfl ?_
            refine jx_vr (pc_q := 62) (as := [.int (i32 (3)), .int (i32 (s)), .int (i32 (r109)), .int (i32 (0)), .int (i32 (0))]) (st := []) rfl rfl rfl rfl ⟨rfl, rfl, Nat.le_of_ble_eq_true rfl⟩ rfl rfl (c_node_e (dd := d) (hd := by omega) (hW := hW116) (kind := 3) (a := s) (b := r109) (c := 0) (e := 0) (nd := nd2_113) (e_nd := show G107 31 = nd2_113 from (e123)) (ec := ec2_115) (e_ec := show ecn A108 (G107 31) = ec2_115 from e125) (sy := sy) (e_sy := show G107 19 = sy from ((hF117.1 19 rfl).trans (e_sy))) (fk := fk2_111) (e_fk := show G107 16 = fk2_111 from (e121))  (h_kind := ⟨(by decide), (by decide)⟩) (h_a := ⟨(Int.le_trans (by decide : (-2147483648 : Int) ≤ -2147483648) h_s.1), (Int.le_trans h_s.2 (by decide : (2147483647 : Int) ≤ 2147483647))⟩) (h_b := ⟨(Int.le_trans (by decide : (-2147483648 : Int) ≤ -2147483648) b119.1), (Int.le_trans b119.2 (by decide : (2147483647 : Int) ≤ 2147483647))⟩) (h_c := ⟨(by decide), (by decide)⟩) (h_e := ⟨(by decide), (by decide)⟩)  (p_0 := by omega) (p_1 := by omega) (p_2 := by omega) (p_3 := by omega)) (fun o V_q hq => ?_)
            obtain ⟨G146, A147, nd2_148, ec2_149, rfl, rfl, hW150, hF151, hQ152, e153, e154, p155, p156, p157, p158, -⟩ := hq
            have hF160 := Fr_tr hF133 hF151 (Fr_sub (by decide)) (Fr_sub (by decide))
            have hP161 := Pf_tr hP134 hQ152 (by omega)
            have bnd2_148 : (0 : Int) ≤ nd2_148 ∧ nd2_148 ≤ 6999 := e153 ▸ hW150.1 31
            refine .inr ⟨_, rfl, ?_⟩
            refine jx_rt (v := some (.int (i32 (nd2_113)))) rfl rfl rfl rfl rfl rfl ?_
            have z162 := tz_f (tk2_114)
            exact ⟨_, _, _, at2_110, fk2_111, op2_112, nd2_148, tk2_114, ec2_149, rfl, rfl, hW150, hF160, hP161, by omega, ((hF151.1 10 rfl).trans (e120)), ((hF151.1 16 rfl).trans (e121)), ((hF151.1 15 rfl).trans (e122)), (e153), ((hF151.1 11 rfl).trans (e124)), e154, by omega, by omega, by omega, by omega, by omega, by omega, by first | exact Or.inl (⟨by omega, by omega, by omega⟩)⟩
          · have _q : True := trivial
            refine jx_ld (pc_q := 52) (l_q := jSto1 L2 5 (.int (i32 (r109)))) (st_q := []) rfl rfl ?_
            obtain ⟨L163, eL163⟩ : ∃ q, q = jSto1 L2 5 (.int (i32 (r109))) := ⟨_, rfl⟩
            rw [← eL163]
            have gL163_0 : jGet L163 0 = some (.ref 66) := eL163 ▸ jg_ne (by decide) gL2_0 rfl
            have gL163_1 : jGet L163 1 = some (.int (i32 (s))) := eL163 ▸ jg_ne (by decide) gL2_1 rfl
            have gL163_2 : jGet L163 2 = some (.int (i32 (place))) := eL163 ▸ jg_ne (by decide) gL2_2 rfl
            have gL163_3 : jGet L163 3 = some (.int (i32 (ch))) := eL163 ▸ jg_ne (by decide) gL2_3 rfl
            have gL163_4 : jGet L163 4 = some (.int (i32 (A 7 (s).toNat))) := eL163 ▸ jg_ne (by decide) gL2_4 rfl
            have gL163_5 : jGet L163 5 = some (.int (i32 (r109))) := eL163 ▸ jg_eq
            refine jx_ld (pc_q := 53) (l_q := L163) (st_q := [.ref 66]) rfl (jl_aloadn gL163_0) ?_
            refine jx_ar (pc_q := 54) (st_q := [.int (i32 (3)), .ref 66]) rfl rfl rfl rfl ?_
            refine jx_ld (pc_q := 55) (l_q := L163) (st_q := [.int (i32 (s)), .int (i32 (3)), .ref 66]) rfl (jl_iloadn gL163_1) ?_
            refine jx_ld (pc_q := 57) (l_q := L163) (st_q := [.int (i32 (r109)), .int (i32 (s)), .int (i32 (3)), .ref 66]) rfl (jl_iload gL163_5) ?_
            refine jx_ar (pc_q := 58) (st_q := [.int (i32 (0)), .int (i32 (r109)), .int (i32 (s)), .int (i32 (3)), .ref 66]) rfl rfl rfl rfl ?_
            refine jx_ar (pc_q := 59) (st_q := [.int (i32 (0)), .int (i32 (0)), .int (i32 (r109)), .int (i32 (s)), .int (i32 (3)), .ref 66]) rfl rfl rfl rfl ?_
            refine jx_vr (pc_q := 62) (as := [.int (i32 (3)), .int (i32 (s)), .int (i32 (r109)), .int (i32 (0)), .int (i32 (0))]) (st := []) rfl rfl rfl rfl ⟨rfl, rfl, Nat.le_of_ble_eq_true rfl⟩ rfl rfl (c_node_e (dd := d) (hd := by omega) (hW := hW116) (kind := 3) (a := s) (b := r109) (c := 0) (e := 0) (nd := nd2_113) (e_nd := show G107 31 = nd2_113 from (e123)) (ec := ec2_115) (e_ec := show ecn A108 (G107 31) = ec2_115 from e125) (sy := sy) (e_sy := show G107 19 = sy from ((hF117.1 19 rfl).trans (e_sy))) (fk := fk2_111) (e_fk := show G107 16 = fk2_111 from (e121))  (h_kind := ⟨(by decide), (by decide)⟩) (h_a := ⟨(Int.le_trans (by decide : (-2147483648 : Int) ≤ -2147483648) h_s.1), (Int.le_trans h_s.2 (by decide : (2147483647 : Int) ≤ 2147483647))⟩) (h_b := ⟨(Int.le_trans (by decide : (-2147483648 : Int) ≤ -2147483648) b119.1), (Int.le_trans b119.2 (by decide : (2147483647 : Int) ≤ 2147483647))⟩) (h_c := ⟨(by decide), (by decide)⟩) (h_e := ⟨(by decide), (by decide)⟩)  (p_0 := by omega) (p_1 := by omega) (p_2 := by omega) (p_3 := by omega)) (fun o V_q hq => ?_)
            obtain ⟨G164, A165, nd2_166, ec2_167, rfl, rfl, hW168, hF169, hQ170, e171, e172, p173, p174, p175, p176, -⟩ := hq
            have hF178 := Fr_tr hF133 hF169 (Fr_sub (by decide)) (Fr_sub (by decide))
            have hP179 := Pf_tr hP134 hQ170 (by omega)
            have sf180 : wE A165 Vs sb (2 * 9 + 2) (r109) (nd) (nd2_113) := wE_ag (by omega) (Sg_fr hF169 (by decide)) (Ag_pf hQ170 (by omega)) a141
            have sf181 : NdM A165 (nd) (nd2_113) (sy) := NdM_pf hQ170 (by omega) (by omega) a143
            have bnd2_166 : (0 : Int) ≤ nd2_166 ∧ nd2_166 ≤ 6999 := e171 ▸ hW168.1 31
            refine .inr ⟨_, rfl, ?_⟩
            refine jx_rt (v := some (.int (i32 (nd2_113)))) rfl rfl rfl rfl rfl rfl ?_
            have z182 := tz_f (tk2_114)
            exact ⟨_, _, _, at2_110, fk2_111, op2_112, nd2_166, tk2_114, ec2_167, rfl, rfl, hW168, hF178, hP179, by omega, ((hF169.1 10 rfl).trans (e120)), ((hF169.1 16 rfl).trans (e121)), ((hF169.1 15 rfl).trans (e122)), (e171), ((hF169.1 11 rfl).trans (e124)), e172, by omega, by omega, by omega, by omega, by omega, by omega, by first | exact Or.inr ((⟨by omega, by omega, by omega, (wR_elem p175 (by omega) (by omega) p_9 (kq (P := kRow (ch)) (show A165 7 (s).toNat = A 7 (s).toNat from (congrFun ((hF169.2 7 rfl).trans (hF117.2 7 rfl)) _)) (by first | exact .inr ⟨by omega, by omega⟩)) (wE_mono (by omega) (by omega) (by omega) sf180)), by omega, (NdM_w (NdM_app (sy := sy) sf181 (p176 (by omega)) (by omega) (by omega) (by omega)) (by omega) (by omega) (by omega))⟩))⟩
        · have _q := h106
          refine jx_go (tg := 38) rfl rfl ?_
          refine jx_ld (pc_q := 39) (l_q := L2) (st_q := [.ref 66]) rfl (jl_aloadn gL2_0) ?_
          refine jx_ar (pc_q := 40) (st_q := [.int (i32 (4)), .ref 66]) rfl rfl rfl rfl ?_
          refine jx_ld (pc_q := 41) (l_q := L2) (st_q := [.int (i32 (place)), .int (i32 (4)), .ref 66]) rfl (jl_iloadn gL2_2) ?_
          refine jx_vr (pc_q := 44) (as := [.int (i32 (4)), .int (i32 (place))]) (st := []) rfl rfl rfl rfl ⟨rfl, rfl, Nat.le_of_ble_eq_true rfl⟩ rfl rfl (c_fail (dd := d) (hd := by omega) (hW := hW) (kind := 4) (place := place) (fk := fk) (e_fk := show G 16 = fk from (e_fk))  (h_kind := ⟨(by decide), (by decide)⟩) (h_place := ⟨(Int.le_trans (by decide : (-2147483648 : Int) ≤ -2147483648) h_place.1), (Int.le_trans h_place.2 (by decide : (2147483647 : Int) ≤ 2147483647))⟩)  (p_0 := by omega) (p_1 := by omega)) (fun o V_q hq => ?_)
          obtain ⟨G183, A184, fk2_185, rfl, rfl, hW186, hF187, e188, p189, -⟩ := hq
          have hF191 := Fr_tr hF0 hF187 (Fr_sub (by decide)) (Fr_sub (by decide))
          have hP192 := Pf_f hP0 hF187 (by decide)
          have ec193 : ecn A184 (G183 31) = ec := (ecn_f (hF187.2 15 rfl) (hF187.1 31 rfl)).trans e_ec
          have bfk2_185 : (0 : Int) ≤ fk2_185 ∧ fk2_185 ≤ 6 := e188 ▸ hW186.1 16
          refine .inl ⟨rfl, ?_⟩
          refine jx_ar (pc_q := 45) (st_q := [.int (i32 (0))]) rfl rfl rfl rfl ?_
          refine jx_rt (v := some (.int (i32 (0)))) rfl rfl rfl rfl rfl rfl ?_
          have z194 := tz_f (tk0)
          exact ⟨_, _, _, at0, fk2_185, op0, nd, tk0, ec, rfl, rfl, hW186, hF191, hP192, by omega, ((hF187.1 10 rfl).trans (e_at0)), (e188), ((hF187.1 15 rfl).trans (e_op0)), ((hF187.1 31 rfl).trans (e_nd)), ((hF187.1 11 rfl).trans (e_tk0)), ec193, by omega, by omega, by omega, by omega, by omega, by omega, by first | exact Or.inl (⟨by omega, by omega, by omega⟩)⟩
  · have _q : True := trivial
    refine jx_if_eq (pc_q := 17) (tg := 63) rfl rfl rfl (by decide) (by decide) (fun h195 => ?_) (fun h195 => ?_)
    · have _q := h195
      refine jx_ld (pc_q := 64) (l_q := L2) (st_q := [.int (i32 (ch))]) rfl (jl_iloadn gL2_3) ?_
      refine jx_if_eq (pc_q := 67) (tg := 78) rfl rfl rfl (Int.le_trans (by decide : (-2147483648 : Int) ≤ 0) h_ch.1) (Int.le_trans h_ch.2 (by decide : (1 : Int) ≤ 2147483647)) (fun h196 => ?_) (fun h196 => ?_)
      · have _q := h196
        refine jx_ld (pc_q := 80) (l_q := L2) (st_q := [.int (i32 (A 7 (s).toNat))]) rfl (jl_iload gL2_4) ?_
        refine jx_st (pc_q := 83) (as := [.int (i32 (A 7 (s).toNat))]) (st := []) rfl rfl ⟨rfl, Nat.le_of_ble_eq_true rfl⟩ rfl rfl rfl (c_isVariable (dd := d) (hd := by omega) (k := A 7 (s).toNat)   (h_k := ⟨(Int.le_trans (by decide : (-2147483648 : Int) ≤ 0) b1.1), (Int.le_trans b1.2 (by decide : (14 : Int) ≤ 2147483647))⟩)  ) (fun o V_q hq => ?_)
        obtain ⟨r197, rfl, rfl, b198, q199⟩ := hq
        refine .inr ⟨_, rfl, ?_⟩
        rcases q199 with ⟨rfl, a200⟩ | rfl
        · have _q : True := trivial
          refine jx_if_ne (pc_q := 86) (tg := 94) rfl rfl rfl (by decide) (by decide) (fun h201 => ?_) (fun h201 => ?_)
          · have _q := h201
            refine jx_ld (pc_q := 95) (l_q := L2) (st_q := [.ref 66]) rfl (jl_aloadn gL2_0) ?_
            refine jx_ar (pc_q := 96) (st_q := [.int (i32 (2)), .ref 66]) rfl rfl rfl rfl ?_
            refine jx_ld (pc_q := 97) (l_q := L2) (st_q := [.int (i32 (s)), .int (i32 (2)), .ref 66]) rfl (jl_iloadn gL2_1) ?_
            refine jx_ar (pc_q := 98) (st_q := [.int (i32 (0)), .int (i32 (s)), .int (i32 (2)), .ref 66]) rfl rfl rfl rfl ?_
            refine jx_ar (pc_q := 99) (st_q := [.int (i32 (0)), .int (i32 (0)), .int (i32 (s)), .int (i32 (2)), .ref 66]) rfl rfl rfl rfl ?_
            refine jx_ar (pc_q := 100) (st_q := [.int (i32 (0)), .int (i32 (0)), .int (i32 (0)), .int (i32 (s)), .int (i32 (2)), .ref 66]) rfl rfl rfl rfl ?_
            refine jx_vr (pc_q := 103) (as := [.int (i32 (2)), .int (i32 (s)), .int (i32 (0)), .int (i32 (0)), .int (i32 (0))]) (st := []) rfl rfl rfl rfl ⟨rfl, rfl, Nat.le_of_ble_eq_true rfl⟩ rfl rfl (c_node_o (dd := d) (hd := by omega) (hW := hW) (kind := 2) (a := s) (b := 0) (c := 0) (e := 0) (nd := nd) (e_nd := show G 31 = nd from (e_nd)) (ec := ec) (e_ec := show ecn A (G 31) = ec from e_ec) (sy := sy) (e_sy := show G 19 = sy from (e_sy))  (h_kind := ⟨(by decide), (by decide)⟩) (h_a := ⟨(Int.le_trans (by decide : (-2147483648 : Int) ≤ -2147483648) h_s.1), (Int.le_trans h_s.2 (by decide : (2147483647 : Int) ≤ 2147483647))⟩) (h_b := ⟨(by decide), (by decide)⟩) (h_c := ⟨(by decide), (by decide)⟩) (h_e := ⟨(by decide), (by decide)⟩)  (p_0 := by omega) (p_1 := by omega) (p_2 := by omega)) (fun o V_q hq => ?_)
            obtain ⟨G202, A203, nd2_204, ec2_205, rfl, rfl, hW206, hF207, hQ208, e209, e210, p211, p212, p213, p214, -⟩ := hq
            have hF216 := Fr_tr hF0 hF207 (Fr_sub (by decide)) (Fr_sub (by decide))
            have hP217 := Pf_tr hP0 hQ208 (by omega)
            have bnd2_204 : (0 : Int) ≤ nd2_204 ∧ nd2_204 ≤ 6999 := e209 ▸ hW206.1 31
            refine .inr ⟨_, rfl, ?_⟩
            refine jx_rt (v := some (.int (i32 (nd)))) rfl rfl rfl rfl rfl rfl ?_
            have z218 := tz_f (tk0)
            exact ⟨_, _, _, at0, fk, op0, nd2_204, tk0, ec2_205, rfl, rfl, hW206, hF216, hP217, by omega, ((hF207.1 10 rfl).trans (e_at0)), ((hF207.1 16 rfl).trans (e_fk)), ((hF207.1 15 rfl).trans (e_op0)), (e209), ((hF207.1 11 rfl).trans (e_tk0)), e210, by omega, by omega, by omega, by omega, by omega, by omega, by first | exact Or.inr ((⟨by omega, by omega, by omega, (wR_var p213 (by omega) (by omega) p_9 (kq (P := kRef (ch)) (show A203 7 (s).toNat = A 7 (s).toNat from (congrFun (hF207.2 7 rfl) _)) (by first | exact .inl ⟨by omega, a200⟩))), by omega, (NdM_w p214 (by omega) (by omega) (by omega))⟩))⟩
          · have _q := h201
            exact absurd h201 (by omega)
        · have _q : True := trivial
          refine jx_if_ne (pc_q := 86) (tg := 94) rfl rfl rfl (by decide) (by decide) (fun h219 => ?_) (fun h219 => ?_)
          · have _q := h219
            exact absurd h219 (by omega)
          · have _q := h219
            refine jx_ld (pc_q := 87) (l_q := L2) (st_q := [.ref 66]) rfl (jl_aloadn gL2_0) ?_
            refine jx_ar (pc_q := 88) (st_q := [.int (i32 (4)), .ref 66]) rfl rfl rfl rfl ?_
            refine jx_ld (pc_q := 89) (l_q := L2) (st_q := [.int (i32 (place)), .int (i32 (4)), .ref 66]) rfl (jl_iloadn gL2_2) ?_
            refine jx_vr (pc_q := 92) (as := [.int (i32 (4)), .int (i32 (place))]) (st := []) rfl rfl rfl rfl ⟨rfl, rfl, Nat.le_of_ble_eq_true rfl⟩ rfl rfl (c_fail (dd := d) (hd := by omega) (hW := hW) (kind := 4) (place := place) (fk := fk) (e_fk := show G 16 = fk from (e_fk))  (h_kind := ⟨(by decide), (by decide)⟩) (h_place := ⟨(Int.le_trans (by decide : (-2147483648 : Int) ≤ -2147483648) h_place.1), (Int.le_trans h_place.2 (by decide : (2147483647 : Int) ≤ 2147483647))⟩)  (p_0 := by omega) (p_1 := by omega)) (fun o V_q hq => ?_)
            obtain ⟨G220, A221, fk2_222, rfl, rfl, hW223, hF224, e225, p226, -⟩ := hq
            have hF228 := Fr_tr hF0 hF224 (Fr_sub (by decide)) (Fr_sub (by decide))
            have hP229 := Pf_f hP0 hF224 (by decide)
            have ec230 : ecn A221 (G220 31) = ec := (ecn_f (hF224.2 15 rfl) (hF224.1 31 rfl)).trans e_ec
            have bfk2_222 : (0 : Int) ≤ fk2_222 ∧ fk2_222 ≤ 6 := e225 ▸ hW223.1 16
            refine .inl ⟨rfl, ?_⟩
            refine jx_ar (pc_q := 93) (st_q := [.int (i32 (0))]) rfl rfl rfl rfl ?_
            refine jx_rt (v := some (.int (i32 (0)))) rfl rfl rfl rfl rfl rfl ?_
            have z231 := tz_f (tk0)
            exact ⟨_, _, _, at0, fk2_222, op0, nd, tk0, ec, rfl, rfl, hW223, hF228, hP229, by omega, ((hF224.1 10 rfl).trans (e_at0)), (e225), ((hF224.1 15 rfl).trans (e_op0)), ((hF224.1 31 rfl).trans (e_nd)), ((hF224.1 11 rfl).trans (e_tk0)), ec230, by omega, by omega, by omega, by omega, by omega, by omega, by first | exact Or.inl (⟨by omega, by omega, by omega⟩)⟩
      · have _q := h196
        refine jx_ld (pc_q := 69) (l_q := L2) (st_q := [.int (i32 (A 7 (s).toNat))]) rfl (jl_iload gL2_4) ?_
        refine jx_st (pc_q := 72) (as := [.int (i32 (A 7 (s).toNat))]) (st := []) rfl rfl ⟨rfl, Nat.le_of_ble_eq_true rfl⟩ rfl rfl rfl (c_isChannel (dd := d) (hd := by omega) (k := A 7 (s).toNat)   (h_k := ⟨(Int.le_trans (by decide : (-2147483648 : Int) ≤ 0) b1.1), (Int.le_trans b1.2 (by decide : (14 : Int) ≤ 2147483647))⟩)  ) (fun o V_q hq => ?_)
        obtain ⟨r232, rfl, rfl, b233, q234⟩ := hq
        refine .inr ⟨_, rfl, ?_⟩
        rcases q234 with ⟨rfl, a235⟩ | rfl
        · have _q : True := trivial
          refine jx_if_ne (pc_q := 75) (tg := 94) rfl rfl rfl (by decide) (by decide) (fun h236 => ?_) (fun h236 => ?_)
          · have _q := h236
            refine jx_ld (pc_q := 95) (l_q := L2) (st_q := [.ref 66]) rfl (jl_aloadn gL2_0) ?_
            refine jx_ar (pc_q := 96) (st_q := [.int (i32 (2)), .ref 66]) rfl rfl rfl rfl ?_
            refine jx_ld (pc_q := 97) (l_q := L2) (st_q := [.int (i32 (s)), .int (i32 (2)), .ref 66]) rfl (jl_iloadn gL2_1) ?_
            refine jx_ar (pc_q := 98) (st_q := [.int (i32 (0)), .int (i32 (s)), .int (i32 (2)), .ref 66]) rfl rfl rfl rfl ?_
            refine jx_ar (pc_q := 99) (st_q := [.int (i32 (0)), .int (i32 (0)), .int (i32 (s)), .int (i32 (2)), .ref 66]) rfl rfl rfl rfl ?_
            refine jx_ar (pc_q := 100) (st_q := [.int (i32 (0)), .int (i32 (0)), .int (i32 (0)), .int (i32 (s)), .int (i32 (2)), .ref 66]) rfl rfl rfl rfl ?_
            refine jx_vr (pc_q := 103) (as := [.int (i32 (2)), .int (i32 (s)), .int (i32 (0)), .int (i32 (0)), .int (i32 (0))]) (st := []) rfl rfl rfl rfl ⟨rfl, rfl, Nat.le_of_ble_eq_true rfl⟩ rfl rfl (c_node_o (dd := d) (hd := by omega) (hW := hW) (kind := 2) (a := s) (b := 0) (c := 0) (e := 0) (nd := nd) (e_nd := show G 31 = nd from (e_nd)) (ec := ec) (e_ec := show ecn A (G 31) = ec from e_ec) (sy := sy) (e_sy := show G 19 = sy from (e_sy))  (h_kind := ⟨(by decide), (by decide)⟩) (h_a := ⟨(Int.le_trans (by decide : (-2147483648 : Int) ≤ -2147483648) h_s.1), (Int.le_trans h_s.2 (by decide : (2147483647 : Int) ≤ 2147483647))⟩) (h_b := ⟨(by decide), (by decide)⟩) (h_c := ⟨(by decide), (by decide)⟩) (h_e := ⟨(by decide), (by decide)⟩)  (p_0 := by omega) (p_1 := by omega) (p_2 := by omega)) (fun o V_q hq => ?_)
            obtain ⟨G237, A238, nd2_239, ec2_240, rfl, rfl, hW241, hF242, hQ243, e244, e245, p246, p247, p248, p249, -⟩ := hq
            have hF251 := Fr_tr hF0 hF242 (Fr_sub (by decide)) (Fr_sub (by decide))
            have hP252 := Pf_tr hP0 hQ243 (by omega)
            have bnd2_239 : (0 : Int) ≤ nd2_239 ∧ nd2_239 ≤ 6999 := e244 ▸ hW241.1 31
            refine .inr ⟨_, rfl, ?_⟩
            refine jx_rt (v := some (.int (i32 (nd)))) rfl rfl rfl rfl rfl rfl ?_
            have z253 := tz_f (tk0)
            exact ⟨_, _, _, at0, fk, op0, nd2_239, tk0, ec2_240, rfl, rfl, hW241, hF251, hP252, by omega, ((hF242.1 10 rfl).trans (e_at0)), ((hF242.1 16 rfl).trans (e_fk)), ((hF242.1 15 rfl).trans (e_op0)), (e244), ((hF242.1 11 rfl).trans (e_tk0)), e245, by omega, by omega, by omega, by omega, by omega, by omega, by first | exact Or.inr ((⟨by omega, by omega, by omega, (wR_var p248 (by omega) (by omega) p_9 (kq (P := kRef (ch)) (show A238 7 (s).toNat = A 7 (s).toNat from (congrFun (hF242.2 7 rfl) _)) (by first | exact .inr ⟨by omega, a235⟩))), by omega, (NdM_w p249 (by omega) (by omega) (by omega))⟩))⟩
          · have _q := h236
            exact absurd h236 (by omega)
        · have _q : True := trivial
          refine jx_if_ne (pc_q := 75) (tg := 94) rfl rfl rfl (by decide) (by decide) (fun h254 => ?_) (fun h254 => ?_)
          · have _q := h254
            exact absurd h254 (by omega)
          · have _q := h254
            refine jx_go (tg := 86) rfl rfl ?_
            refine jx_ld (pc_q := 87) (l_q := L2) (st_q := [.ref 66]) rfl (jl_aloadn gL2_0) ?_
            refine jx_ar (pc_q := 88) (st_q := [.int (i32 (4)), .ref 66]) rfl rfl rfl rfl ?_
            refine jx_ld (pc_q := 89) (l_q := L2) (st_q := [.int (i32 (place)), .int (i32 (4)), .ref 66]) rfl (jl_iloadn gL2_2) ?_
            refine jx_vr (pc_q := 92) (as := [.int (i32 (4)), .int (i32 (place))]) (st := []) rfl rfl rfl rfl ⟨rfl, rfl, Nat.le_of_ble_eq_true rfl⟩ rfl rfl (c_fail (dd := d) (hd := by omega) (hW := hW) (kind := 4) (place := place) (fk := fk) (e_fk := show G 16 = fk from (e_fk))  (h_kind := ⟨(by decide), (by decide)⟩) (h_place := ⟨(Int.le_trans (by decide : (-2147483648 : Int) ≤ -2147483648) h_place.1), (Int.le_trans h_place.2 (by decide : (2147483647 : Int) ≤ 2147483647))⟩)  (p_0 := by omega) (p_1 := by omega)) (fun o V_q hq => ?_)
            obtain ⟨G255, A256, fk2_257, rfl, rfl, hW258, hF259, e260, p261, -⟩ := hq
            have hF263 := Fr_tr hF0 hF259 (Fr_sub (by decide)) (Fr_sub (by decide))
            have hP264 := Pf_f hP0 hF259 (by decide)
            have ec265 : ecn A256 (G255 31) = ec := (ecn_f (hF259.2 15 rfl) (hF259.1 31 rfl)).trans e_ec
            have bfk2_257 : (0 : Int) ≤ fk2_257 ∧ fk2_257 ≤ 6 := e260 ▸ hW258.1 16
            refine .inl ⟨rfl, ?_⟩
            refine jx_ar (pc_q := 93) (st_q := [.int (i32 (0))]) rfl rfl rfl rfl ?_
            refine jx_rt (v := some (.int (i32 (0)))) rfl rfl rfl rfl rfl rfl ?_
            have z266 := tz_f (tk0)
            exact ⟨_, _, _, at0, fk2_257, op0, nd, tk0, ec, rfl, rfl, hW258, hF263, hP264, by omega, ((hF259.1 10 rfl).trans (e_at0)), (e260), ((hF259.1 15 rfl).trans (e_op0)), ((hF259.1 31 rfl).trans (e_nd)), ((hF259.1 11 rfl).trans (e_tk0)), ec265, by omega, by omega, by omega, by omega, by omega, by omega, by first | exact Or.inl (⟨by omega, by omega, by omega⟩)⟩
    · have _q := h195
      exact absurd h195 (by omega)
set_option maxRecDepth 20000 in
set_option maxHeartbeats 4000000 in
theorem c_readReference_w {X : jX} {dd : Nat} {Vs : Nat → Prop} {sb : Int} {c0 c1 : jC} {G : Nat → Int} {A : Nat → Nat → Int} {T : jH} {ch : Int} {ln le at0 fk op0 nd tk0 ec sy : Int} (hd : 68 ≤ dd) (hW : Wk G A) (e_ln : G 9 = ln) (e_le : A 4 (ln).toNat = le) (e_at0 : G 10 = at0) (e_fk : G 16 = fk) (e_op0 : G 15 = op0) (e_nd : G 31 = nd) (e_tk0 : G 11 = tk0) (e_ec : ecn A (G 31) = ec) (e_sy : G 19 = sy) (i_SV : SV Vs sb G A) (h_ch : (0 : Int) ≤ ch ∧ ch ≤ 1) (p_0 : 0 ≤ op0) (p_1 : op0 ≤ 9) (p_2 : op0 ≤ 8 ∨ 1 ≤ fk) (p_3 : nd ≤ 2 * at0 - tz tk0 + 50) (p_4 : at0 ≤ le) : wk X dd 290 [.ref 66, .int (i32 ch)] (rV c0 c1 G A T) (fun o V_q => ∃ (G_q : Nat → Int) (A_q : Nat → Nat → Int) (r : Int) (at2 : Int) (fk2 : Int) (op2 : Int) (nd2 : Int) (tk2 : Int) (ec2 : Int), V_q = rV c0 c1 G_q A_q T ∧ o = .inl (some (.int (i32 r))) ∧ Wk G_q A_q ∧ Fr [10, 11, 12, 13, 14, 15, 16, 17, 18, 31] [15, 16, 17, 18, 19, 20, 21, 22, 24, 28] G A G_q A_q ∧ Pf nd A A_q ∧ ((-2147483648 : Int) ≤ r ∧ r ≤ 2147483647) ∧ G_q 10 = at2 ∧ G_q 16 = fk2 ∧ G_q 15 = op2 ∧ G_q 31 = nd2 ∧ G_q 11 = tk2 ∧ ecn A_q (G_q 31) = ec2 ∧ (at0 ≤ at2) ∧ (at2 ≤ le) ∧ (nd ≤ nd2) ∧ (op2 = op0) ∧ (0 ≤ r) ∧ (r ≤ nd2) ∧ (((1 ≤ fk) ∧ (1 ≤ fk2) ∧ (nd2 = nd) ∧ (at2 = at0) ∧ (tk2 = tk0) ∧ (tz tk2 = tz tk0)) ∨ ((fk = 0) ∧ (1 ≤ fk2) ∧ (nd2 - nd ≤ (2 * at2 - tz tk2) - (2 * at0 - tz tk0) + 1)) ∨ ((fk = 0) ∧ (fk2 = 0) ∧ (nd2 - nd ≤ (2 * at2 - tz tk2) - (2 * at0 - tz tk0)) ∧ (wR A_q Vs sb (20) (ch) (r) (nd) (nd2)) ∧ (nd2 - nd + 5 * (ec2 - ec) ≤ (2 * at2 - tz tk2) - (2 * at0 - tz tk0) - tz tk2) ∧ (NdM A_q (nd) (nd2) (sy)) ∧ (tz tk0 = 1)))) := by
  obtain ⟨d, rfl⟩ : ∃ d, dd = d + 1 := ⟨dd - 1, by omega⟩
  refine wk_of (e := jm290) rfl (Nat.le_of_ble_eq_true rfl) ?_
  show wj X d jm290 (0, [(0, .ref 66), (1, .int (i32 (ch)))], [], rV c0 c1 G A T) _
  have hF0 : Fr [10, 11, 12, 13, 14, 15, 16, 17, 18, 31] [15, 16, 17, 18, 19, 20, 21, 22, 24, 28] G A G A := Fr_rf
  have hP0 : Pf nd A A := Pf_rf
  have b_ln : (0 : Int) ≤ ln ∧ ln ≤ 3000 := e_ln ▸ hW.1 9
  have b_le : (0 : Int) ≤ le ∧ le ≤ 3000 := e_le ▸ hW.2 4 _
  have b_at0 : (0 : Int) ≤ at0 ∧ at0 ≤ 3002 := e_at0 ▸ hW.1 10
  have b_fk : (0 : Int) ≤ fk ∧ fk ≤ 6 := e_fk ▸ hW.1 16
  have b_op0 : (-2147483648 : Int) ≤ op0 ∧ op0 ≤ 2147483647 := e_op0 ▸ hW.1 15
  have b_nd : (0 : Int) ≤ nd ∧ nd ≤ 6999 := e_nd ▸ hW.1 31
  have z_tk0 := tz_f tk0
  have b_tk0 : (0 : Int) ≤ tk0 ∧ tk0 ≤ 5 := e_tk0 ▸ hW.1 11
  have b_sy : (0 : Int) ≤ sy ∧ sy ≤ 202 := e_sy ▸ hW.1 19
  refine jx_ld (pc_q := 1) (l_q := [(0, .ref 66), (1, .int (i32 (ch)))]) (st_q := [.ref 66]) rfl (jl_aloadn rfl) ?_
  refine jx_vr (pc_q := 4) (as := []) (st := []) rfl rfl rfl rfl ⟨rfl, rfl, Nat.le_of_ble_eq_true rfl⟩ rfl rfl (c_bad (dd := d) (hd := by omega) (hW := hW)  (fk := fk) (e_fk := show G 16 = fk from (e_fk))    ) (fun o V_q hq => ?_)
  obtain ⟨r1, rfl, rfl, b2, q3⟩ := hq
  refine .inr ⟨_, rfl, ?_⟩
  rcases q3 with ⟨rfl, a4⟩ | ⟨rfl, a5⟩
  · have _q : True := trivial
    refine jx_if_eq (pc_q := 7) (tg := 9) rfl rfl rfl (by decide) (by decide) (fun h6 => ?_) (fun h6 => ?_)
    · have _q := h6
      exact absurd h6 (by omega)
    · have _q := h6
      refine jx_ar (pc_q := 8) (st_q := [.int (i32 (0))]) rfl rfl rfl rfl ?_
      refine jx_rt (v := some (.int (i32 (0)))) rfl rfl rfl rfl rfl rfl ?_
      have z7 := tz_f (tk0)
      exact ⟨_, _, _, at0, fk, op0, nd, tk0, ec, rfl, rfl, hW, hF0, hP0, by omega, (e_at0), (e_fk), (e_op0), (e_nd), (e_tk0), e_ec, by omega, by omega, by omega, by omega, by omega, by omega, by first | exact Or.inl (⟨by omega, by omega, by omega, by omega, by omega, by omega⟩)⟩
  · have _q : True := trivial
    refine jx_if_eq (pc_q := 7) (tg := 9) rfl rfl rfl (by decide) (by decide) (fun h8 => ?_) (fun h8 => ?_)
    · have _q := h8
      refine jx_ld (pc_q := 10) (l_q := [(0, .ref 66), (1, .int (i32 (ch)))]) (st_q := [.ref 66]) rfl (jl_aloadn rfl) ?_
      have z9 := tz_f (tk0)
      refine jr_get (pc_q := 13) (i := 11) (v := .int (i32 (tk0))) rfl rfl (by decide) (rFv_eq (by decide) (show G 11 = tk0 from (e_tk0))) rfl ?_
      refine jx_ar (pc_q := 14) (st_q := [.int (i32 (1)), .int (i32 (tk0))]) rfl rfl rfl rfl ?_
      refine jx_icmp_eq (pc_q := 17) (tg := 28) rfl rfl rfl (Int.le_trans (by decide : (-2147483648 : Int) ≤ 0) b_tk0.1) (Int.le_trans b_tk0.2 (by decide : (5 : Int) ≤ 2147483647)) (by decide) (by decide) (fun h10 => ?_) (fun h10 => ?_)
      · have _q := h10
        refine jx_ld (pc_q := 29) (l_q := [(0, .ref 66), (1, .int (i32 (ch)))]) (st_q := [.ref 66]) rfl (jl_aloadn rfl) ?_
        have b11 : (-3000 : Int) ≤ G 12 ∧ G 12 ≤ 3002 := hW.1 12
        refine jr_get (pc_q := 32) (i := 12) (v := .int (i32 (G 12))) rfl rfl (by decide) rfl rfl ?_
        refine jx_ld (pc_q := 33) (l_q := jSto1 [(0, .ref 66), (1, .int (i32 (ch)))] 2 (.int (i32 (G 12)))) (st_q := []) rfl rfl ?_
        obtain ⟨L12, eL12⟩ : ∃ q, q = jSto1 [(0, .ref 66), (1, .int (i32 (ch)))] 2 (.int (i32 (G 12))) := ⟨_, rfl⟩
        rw [← eL12]
        have gL12_0 : jGet L12 0 = some (.ref 66) := eL12 ▸ jg_ne (by decide) (rfl : jGet [(0, .ref 66), (1, .int (i32 (ch)))] 0 = some (.ref 66)) rfl
        have gL12_1 : jGet L12 1 = some (.int (i32 (ch))) := eL12 ▸ jg_ne (by decide) (rfl : jGet [(0, .ref 66), (1, .int (i32 (ch)))] 1 = some (.int (i32 (ch)))) rfl
        have gL12_2 : jGet L12 2 = some (.int (i32 (G 12))) := eL12 ▸ jg_eq
        refine jx_ld (pc_q := 34) (l_q := L12) (st_q := [.ref 66]) rfl (jl_aloadn gL12_0) ?_
        refine jx_vr (pc_q := 37) (as := []) (st := []) rfl rfl rfl rfl ⟨rfl, rfl, Nat.le_of_ble_eq_true rfl⟩ rfl rfl (c_lookUp (dd := d) (hd := by omega) (hW := hW)  (fk := fk) (e_fk := show G 16 = fk from (e_fk)) (i_SV := (SV_ext (rfl) (rfl) i_SV))   ) (fun o V_q hq => ?_)
        obtain ⟨G13, A14, r15, fk2_16, rfl, rfl, hW17, hF18, b19, e20, q21⟩ := hq
        have hF22 := Fr_tr hF0 hF18 (Fr_sub (by decide)) (Fr_sub (by decide))
        have hP23 := Pf_f hP0 hF18 (by decide)
        have ec24 : ecn A14 (G13 31) = ec := (ecn_f (hF18.2 15 rfl) (hF18.1 31 rfl)).trans e_ec
        have bfk2_16 : (0 : Int) ≤ fk2_16 ∧ fk2_16 ≤ 6 := e20 ▸ hW17.1 16
        refine .inr ⟨_, rfl, ?_⟩
        rcases q21 with ⟨a25, a26⟩ | ⟨a27, a28, a29, a30⟩
        · have _q : True := trivial
          refine jx_ld (pc_q := 38) (l_q := jSto1 L12 3 (.int (i32 (r15)))) (st_q := []) rfl rfl ?_
          obtain ⟨L31, eL31⟩ : ∃ q, q = jSto1 L12 3 (.int (i32 (r15))) := ⟨_, rfl⟩
          rw [← eL31]
          have gL31_0 : jGet L31 0 = some (.ref 66) := eL31 ▸ jg_ne (by decide) gL12_0 rfl
          have gL31_1 : jGet L31 1 = some (.int (i32 (ch))) := eL31 ▸ jg_ne (by decide) gL12_1 rfl
          have gL31_2 : jGet L31 2 = some (.int (i32 (G 12))) := eL31 ▸ jg_ne (by decide) gL12_2 rfl
          have gL31_3 : jGet L31 3 = some (.int (i32 (r15))) := eL31 ▸ jg_eq
          refine jx_ld (pc_q := 39) (l_q := L31) (st_q := [.ref 66]) rfl (jl_aloadn gL31_0) ?_
          refine jx_vr (pc_q := 42) (as := []) (st := []) rfl rfl rfl rfl ⟨rfl, rfl, Nat.le_of_ble_eq_true rfl⟩ rfl rfl (c_bad (dd := d) (hd := by omega) (hW := hW17)  (fk := fk2_16) (e_fk := show G13 16 = fk2_16 from (e20))    ) (fun o V_q hq => ?_)
          obtain ⟨r32, rfl, rfl, b33, q34⟩ := hq
          refine .inr ⟨_, rfl, ?_⟩
          rcases q34 with ⟨rfl, a35⟩ | ⟨rfl, a36⟩
          · have _q : True := trivial
            refine jx_if_eq (pc_q := 45) (tg := 47) rfl rfl rfl (by decide) (by decide) (fun h37 => ?_) (fun h37 => ?_)
            · have _q := h37
              exact absurd h37 (by omega)
            · have _q := h37
              refine jx_ar (pc_q := 46) (st_q := [.int (i32 (0))]) rfl rfl rfl rfl ?_
              refine jx_rt (v := some (.int (i32 (0)))) rfl rfl rfl rfl rfl rfl ?_
              have z38 := tz_f (tk0)
              exact ⟨_, _, _, at0, fk2_16, op0, nd, tk0, ec, rfl, rfl, hW17, hF22, hP23, by omega, ((hF18.1 10 rfl).trans (e_at0)), (e20), ((hF18.1 15 rfl).trans (e_op0)), ((hF18.1 31 rfl).trans (e_nd)), ((hF18.1 11 rfl).trans (e_tk0)), ec24, by omega, by omega, by omega, by omega, by omega, by omega, by first | exact Or.inr (Or.inl (⟨by omega, by omega, by omega⟩))⟩
          · have _q : True := trivial
            exfalso
            omega
        · have _q : True := trivial
          refine jx_ld (pc_q := 38) (l_q := jSto1 L12 3 (.int (i32 (r15)))) (st_q := []) rfl rfl ?_
          obtain ⟨L39, eL39⟩ : ∃ q, q = jSto1 L12 3 (.int (i32 (r15))) := ⟨_, rfl⟩
          rw [← eL39]
          have gL39_0 : jGet L39 0 = some (.ref 66) := eL39 ▸ jg_ne (by decide) gL12_0 rfl
          have gL39_1 : jGet L39 1 = some (.int (i32 (ch))) := eL39 ▸ jg_ne (by decide) gL12_1 rfl
          have gL39_2 : jGet L39 2 = some (.int (i32 (G 12))) := eL39 ▸ jg_ne (by decide) gL12_2 rfl
          have gL39_3 : jGet L39 3 = some (.int (i32 (r15))) := eL39 ▸ jg_eq
          refine jx_ld (pc_q := 39) (l_q := L39) (st_q := [.ref 66]) rfl (jl_aloadn gL39_0) ?_
          refine jx_vr (pc_q := 42) (as := []) (st := []) rfl rfl rfl rfl ⟨rfl, rfl, Nat.le_of_ble_eq_true rfl⟩ rfl rfl (c_bad (dd := d) (hd := by omega) (hW := hW17)  (fk := fk2_16) (e_fk := show G13 16 = fk2_16 from (e20))    ) (fun o V_q hq => ?_)
          obtain ⟨r40, rfl, rfl, b41, q42⟩ := hq
          refine .inr ⟨_, rfl, ?_⟩
          rcases q42 with ⟨rfl, a43⟩ | ⟨rfl, a44⟩
          · have _q : True := trivial
            exfalso
            omega
          · have _q : True := trivial
            refine jx_if_eq (pc_q := 45) (tg := 47) rfl rfl rfl (by decide) (by decide) (fun h45 => ?_) (fun h45 => ?_)
            · have _q := h45
              refine jx_ld (pc_q := 48) (l_q := L39) (st_q := [.ref 66]) rfl (jl_aloadn gL39_0) ?_
              refine jx_vr (pc_q := 51) (as := []) (st := []) rfl rfl rfl rfl ⟨rfl, rfl, Nat.le_of_ble_eq_true rfl⟩ rfl rfl (c_next (dd := d) (hd := by omega) (hW := hW17)  (ln := ln) (e_ln := show G13 9 = ln from ((hF18.1 9 rfl).trans (e_ln))) (le := le) (e_le := show A14 4 (ln).toNat = le from (congrFun (hF18.2 4 rfl) _).trans (e_le)) (at0 := at0) (e_at0 := show G13 10 = at0 from ((hF18.1 10 rfl).trans (e_at0)))    (p_0 := by omega)) (fun o V_q hq => ?_)
              obtain ⟨G46, A47, at2_48, tk2_49, rfl, rfl, hW50, hF51, e52, e53, p54, p55, p56, -⟩ := hq
              have hF58 := Fr_tr hF22 hF51 (Fr_sub (by decide)) (Fr_sub (by decide))
              have hP59 := Pf_f hP23 hF51 (by decide)
              have ec60 : ecn A47 (G46 31) = ec := (ecn_f (hF51.2 15 rfl) (hF51.1 31 rfl)).trans ec24
              have bat2_48 : (0 : Int) ≤ at2_48 ∧ at2_48 ≤ 3002 := e52 ▸ hW50.1 10
              have ztk2_49 := tz_b tk2_49
              have btk2_49 : (0 : Int) ≤ tk2_49 ∧ tk2_49 ≤ 5 := e53 ▸ hW50.1 11
              refine .inl ⟨rfl, ?_⟩
              have pz61 : at0 + tz tk2_49 ≤ at2_48 := by omega
              refine jx_ld (pc_q := 52) (l_q := L39) (st_q := [.ref 66]) rfl (jl_aloadn gL39_0) ?_
              refine jx_ld (pc_q := 53) (l_q := L39) (st_q := [.int (i32 (r15)), .ref 66]) rfl (jl_iloadn gL39_3) ?_
              refine jx_ld (pc_q := 54) (l_q := L39) (st_q := [.int (i32 (G 12)), .int (i32 (r15)), .ref 66]) rfl (jl_iloadn gL39_2) ?_
              refine jx_ld (pc_q := 55) (l_q := L39) (st_q := [.int (i32 (ch)), .int (i32 (G 12)), .int (i32 (r15)), .ref 66]) rfl (jl_iloadn gL39_1) ?_
              refine jx_vr (pc_q := 58) (as := [.int (i32 (r15)), .int (i32 (G 12)), .int (i32 (ch))]) (st := []) rfl rfl rfl rfl ⟨rfl, rfl, Nat.le_of_ble_eq_true rfl⟩ rfl rfl (c_readBehind_w (dd := d) (hd := by omega) (hW := hW50) (s := r15) (place := G 12) (ch := ch) (ln := ln) (e_ln := show G46 9 = ln from ((hF51.1 9 rfl).trans ((hF18.1 9 rfl).trans (e_ln)))) (le := le) (e_le := show A47 4 (ln).toNat = le from (congrFun ((hF51.2 4 rfl).trans (hF18.2 4 rfl)) _).trans (e_le)) (at0 := at2_48) (e_at0 := show G46 10 = at2_48 from (e52)) (fk := fk2_16) (e_fk := show G46 16 = fk2_16 from ((hF51.1 16 rfl).trans (e20))) (op0 := op0) (e_op0 := show G46 15 = op0 from ((hF51.1 15 rfl).trans ((hF18.1 15 rfl).trans (e_op0)))) (nd := nd) (e_nd := show G46 31 = nd from ((hF51.1 31 rfl).trans ((hF18.1 31 rfl).trans (e_nd)))) (tk0 := tk2_49) (e_tk0 := show G46 11 = tk2_49 from (e53)) (ec := ec) (e_ec := show ecn A47 (G46 31) = ec from ec60) (sy := sy) (e_sy := show G46 19 = sy from ((hF51.1 19 rfl).trans ((hF18.1 19 rfl).trans (e_sy)))) (i_SV := (SV_ext (((hF51.1 29 rfl).trans (hF18.1 29 rfl))) (((hF51.2 14 rfl).trans (hF18.2 14 rfl))) i_SV)) (h_s := ⟨(Int.le_trans (by decide : (-2147483648 : Int) ≤ -2147483648) b19.1), (Int.le_trans b19.2 (by decide : (2147483647 : Int) ≤ 2147483647))⟩) (h_place := ⟨(Int.le_trans (by decide : (-2147483648 : Int) ≤ -3000) b11.1), (Int.le_trans b11.2 (by decide : (3002 : Int) ≤ 2147483647))⟩) (h_ch := ⟨(Int.le_trans (by decide : (0 : Int) ≤ 0) h_ch.1), (Int.le_trans h_ch.2 (by decide : (1 : Int) ≤ 1))⟩)  (p_0 := by omega) (p_1 := by omega) (p_2 := by omega) (p_3 := by omega) (p_4 := by omega) (p_5 := by omega) (p_6 := by omega) (p_7 := by omega) (p_8 := by omega) (p_9 := a30)) (fun o V_q hq => ?_)
              obtain ⟨G62, A63, r64, at2_65, fk2_66, op2_67, nd2_68, tk2_69, ec2_70, rfl, rfl, hW71, hF72, hQ73, b74, e75, e76, e77, e78, e79, e80, p81, p82, p83, p84, p85, p86, q87⟩ := hq
              have hF88 := Fr_tr hF58 hF72 (Fr_sub (by decide)) (Fr_sub (by decide))
              have hP89 := Pf_tr hP59 hQ73 (by omega)
              have bat2_65 : (0 : Int) ≤ at2_65 ∧ at2_65 ≤ 3002 := e75 ▸ hW71.1 10
              have bfk2_66 : (0 : Int) ≤ fk2_66 ∧ fk2_66 ≤ 6 := e76 ▸ hW71.1 16
              have bop2_67 : (-2147483648 : Int) ≤ op2_67 ∧ op2_67 ≤ 2147483647 := e77 ▸ hW71.1 15
              have bnd2_68 : (0 : Int) ≤ nd2_68 ∧ nd2_68 ≤ 6999 := e78 ▸ hW71.1 31
              have ztk2_69 := tz_b tk2_69
              have btk2_69 : (0 : Int) ≤ tk2_69 ∧ tk2_69 ≤ 5 := e79 ▸ hW71.1 11
              refine .inr ⟨_, rfl, ?_⟩
              rcases q87 with ⟨a90, a91, a92⟩ | ⟨a93, a94, a95, a96, a97, a98⟩
              · have _q : True := trivial
                refine jx_rt (v := some (.int (i32 (r64)))) rfl rfl rfl rfl rfl rfl ?_
                have z99 := tz_f (tk2_69)
                exact ⟨_, _, _, at2_65, fk2_66, op2_67, nd2_68, tk2_69, ec2_70, rfl, rfl, hW71, hF88, hP89, by omega, (e75), (e76), (e77), (e78), (e79), e80, by omega, by omega, by omega, by omega, by omega, by omega, by first | exact Or.inr (Or.inl (⟨by omega, by omega, by omega⟩))⟩
              · have _q : True := trivial
                refine jx_rt (v := some (.int (i32 (r64)))) rfl rfl rfl rfl rfl rfl ?_
                have z100 := tz_f (tk2_69)
                exact ⟨_, _, _, at2_65, fk2_66, op2_67, nd2_68, tk2_69, ec2_70, rfl, rfl, hW71, hF88, hP89, by omega, (e75), (e76), (e77), (e78), (e79), e80, by omega, by omega, by omega, by omega, by omega, by omega, by first | exact Or.inr (Or.inr ((⟨by omega, by omega, by omega, a96, by omega, a98, by omega⟩)))⟩
            · have _q := h45
              exact absurd h45 (by omega)
      · have _q := h10
        refine jx_ld (pc_q := 18) (l_q := [(0, .ref 66), (1, .int (i32 (ch)))]) (st_q := [.ref 66]) rfl (jl_aloadn rfl) ?_
        refine jx_ar (pc_q := 19) (st_q := [.int (i32 (1)), .ref 66]) rfl rfl rfl rfl ?_
        refine jx_ld (pc_q := 20) (l_q := [(0, .ref 66), (1, .int (i32 (ch)))]) (st_q := [.ref 66, .int (i32 (1)), .ref 66]) rfl (jl_aloadn rfl) ?_
        have b101 : (-3000 : Int) ≤ G 12 ∧ G 12 ≤ 3002 := hW.1 12
        refine jr_get (pc_q := 23) (i := 12) (v := .int (i32 (G 12))) rfl rfl (by decide) rfl rfl ?_
        refine jx_vr (pc_q := 26) (as := [.int (i32 (1)), .int (i32 (G 12))]) (st := []) rfl rfl rfl rfl ⟨rfl, rfl, Nat.le_of_ble_eq_true rfl⟩ rfl rfl (c_fail (dd := d) (hd := by omega) (hW := hW) (kind := 1) (place := G 12) (fk := fk) (e_fk := show G 16 = fk from (e_fk))  (h_kind := ⟨(by decide), (by decide)⟩) (h_place := ⟨(Int.le_trans (by decide : (-2147483648 : Int) ≤ -3000) b101.1), (Int.le_trans b101.2 (by decide : (3002 : Int) ≤ 2147483647))⟩)  (p_0 := by omega) (p_1 := by omega)) (fun o V_q hq => ?_)
        obtain ⟨G102, A103, fk2_104, rfl, rfl, hW105, hF106, e107, p108, -⟩ := hq
        have hF110 := Fr_tr hF0 hF106 (Fr_sub (by decide)) (Fr_sub (by decide))
        have hP111 := Pf_f hP0 hF106 (by decide)
        have ec112 : ecn A103 (G102 31) = ec := (ecn_f (hF106.2 15 rfl) (hF106.1 31 rfl)).trans e_ec
        have bfk2_104 : (0 : Int) ≤ fk2_104 ∧ fk2_104 ≤ 6 := e107 ▸ hW105.1 16
        refine .inl ⟨rfl, ?_⟩
        refine jx_ar (pc_q := 27) (st_q := [.int (i32 (0))]) rfl rfl rfl rfl ?_
        refine jx_rt (v := some (.int (i32 (0)))) rfl rfl rfl rfl rfl rfl ?_
        have z113 := tz_f (tk0)
        exact ⟨_, _, _, at0, fk2_104, op0, nd, tk0, ec, rfl, rfl, hW105, hF110, hP111, by omega, ((hF106.1 10 rfl).trans (e_at0)), (e107), ((hF106.1 15 rfl).trans (e_op0)), ((hF106.1 31 rfl).trans (e_nd)), ((hF106.1 11 rfl).trans (e_tk0)), ec112, by omega, by omega, by omega, by omega, by omega, by omega, by first | exact Or.inr (Or.inl (⟨by omega, by omega, by omega⟩))⟩
    · have _q := h8
      exact absurd h8 (by omega)
