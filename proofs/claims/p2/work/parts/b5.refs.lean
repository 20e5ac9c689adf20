set_option maxRecDepth 20000 in
set_option maxHeartbeats 4000000 in
theorem c_readBehind_w {X : jX} {dd : Nat} {Vs : Nat → Prop} {sb : Int} {c0 c1 : jC} {G : Nat → Int} {A : Nat → Nat → Int} {T : jH} {s place ch : Int} {ln le at0 fk op0 nd tk0 ec : Int} (hd : 67 ≤ dd) (hW : Wk G A) (e_ln : G 9 = ln) (e_le : A 4 (ln).toNat = le) (e_at0 : G 10 = at0) (e_fk : G 16 = fk) (e_op0 : G 15 = op0) (e_nd : G 31 = nd) (e_tk0 : G 11 = tk0) (e_ec : ecn A (G 31) = ec) (i_SV : SV Vs sb G A) (h_s : (-2147483648 : Int) ≤ s ∧ s ≤ 2147483647) (h_place : (-2147483648 : Int) ≤ place ∧ place ≤ 2147483647) (h_ch : (0 : Int) ≤ ch ∧ ch ≤ 1) (p_0 : 0 ≤ op0) (p_1 : op0 ≤ 9) (p_2 : op0 ≤ 8 ∨ 1 ≤ fk) (p_3 : nd ≤ 2 * at0 - tz tk0 + 50) (p_4 : at0 ≤ le) (p_5 : op0 ≤ 8) (p_6 : fk = 0) (p_7 : 0 ≤ s ∧ s ≤ 201) (p_8 : -3000 ≤ place ∧ place ≤ 3002) (p_9 : SY Vs sb (s)) : wk X dd 291 [.ref 66, .int (i32 s), .int (i32 place), .int (i32 ch)] (rV c0 c1 G A T) (fun o V' => ∃ (G' : Nat → Int) (A' : Nat → Nat → Int) (r : Int) (at2 : Int) (fk2 : Int) (op2 : Int) (nd2 : Int) (tk2 : Int) (ec2 : Int), V' = rV c0 c1 G' A' T ∧ o = .inl (some (.int (i32 r))) ∧ Wk G' A' ∧ Fr [10, 11, 12, 13, 14, 15, 16, 17, 18, 31] [15, 16, 17, 18, 19, 20, 21, 22, 24, 28] G A G' A' ∧ Pf nd A A' ∧ ((-2147483648 : Int) ≤ r ∧ r ≤ 2147483647) ∧ G' 10 = at2 ∧ G' 16 = fk2 ∧ G' 15 = op2 ∧ G' 31 = nd2 ∧ G' 11 = tk2 ∧ ecn A' (G' 31) = ec2 ∧ (at0 ≤ at2) ∧ (at2 ≤ le) ∧ (nd ≤ nd2) ∧ (op2 = op0) ∧ (0 ≤ r) ∧ (r ≤ nd2) ∧ (((fk = 0) ∧ (1 ≤ fk2) ∧ (nd2 - nd ≤ (2 * at2 - tz tk2) - (2 * at0 - tz tk0) + 2)) ∨ ((fk = 0) ∧ (fk2 = 0) ∧ (nd2 - nd ≤ (2 * at2 - tz tk2) - (2 * at0 - tz tk0) + 1) ∧ (wR A' Vs sb (20) (ch) (r) (nd) (nd2)) ∧ (nd2 - nd + 5 * (ec2 - ec) ≤ (2 * at2 - tz tk2) - (2 * at0 - tz tk0) + 1 + tz tk0 - tz tk2)))) := by
  obtain ⟨d, rfl⟩ : ∃ d, dd = d + 1 := ⟨dd - 1, by omega⟩
  refine wk_of (e := jm291) rfl (Nat.le_of_ble_eq_true rfl) ?_
  show wj X d jm291 (0, [(0, .ref 66), (1, .int (i32 (s))), (2, .int (i32 (place))), (3, .int (i32 (ch)))], [], rV c0 c1 G A T) _
  have hF0 : Fr [10, 11, 12, 13, 14, 15, 16, 17, 18, 31] [15, 16, 17, 18, 19, 20, 21, 22, 24, 28] G A G A := Fr_rf
  have hP0 : Pf nd A A := Pf_rf
  have b_ln : (0 : Int) ≤ ln ∧ ln ≤ 3000 := e_ln ▸ hW.1 9
  have b_le : (0 : Int) ≤ le ∧ le ≤ 3000 := e_le ▸ hW.2 4 _
  have b_at0 : (0 : Int) ≤ at0 ∧ at0 ≤ 3002 := e_at0 ▸ hW.1 10
  have b_fk : (0 : Int) ≤ fk ∧ fk ≤ 6 := e_fk ▸ hW.1 16
  have b_op0 : (-2147483648 : Int) ≤ op0 ∧ op0 ≤ 2147483647 := e_op0 ▸ hW.1 15
  have b_nd : (0 : Int) ≤ nd ∧ nd ≤ 6999 := e_nd ▸ hW.1 31
  have z_tk0 := tz_f tk0
  have b_tk0 : (0 : Int) ≤ tk0 ∧ tk0 ≤ 5 := e_tk0 ▸ hW.1 11
  refine jx_ld (pc' := 1) (l' := [(0, .ref 66), (1, .int (i32 (s))), (2, .int (i32 (place))), (3, .int (i32 (ch)))]) (st' := [.ref 66]) rfl (jl_aloadn rfl) ?_
  refine jr_get (pc' := 4) (i := 21) (v := .ref 74) rfl rfl (by decide) rfl rfl ?_
  refine jx_ld (pc' := 5) (l' := [(0, .ref 66), (1, .int (i32 (s))), (2, .int (i32 (place))), (3, .int (i32 (ch)))]) (st' := [.int (i32 (s)), .ref 74]) rfl (jl_iloadn rfl) ?_
  have b1 : (0 : Int) ≤ A 7 (s).toNat ∧ A 7 (s).toNat ≤ 14 := hW.2 7 _
  refine jr_ldv (pc' := 6) (i := 7) (m := 260) (z := s) (y := A 7 (s).toNat) rfl (by decide) rfl (by decide) (by omega) (by omega) rfl (show A 7 (s).toNat = A 7 (s).toNat from rfl) ?_
  refine jx_ld (pc' := 8) (l' := jSto1 [(0, .ref 66), (1, .int (i32 (s))), (2, .int (i32 (place))), (3, .int (i32 (ch)))] 4 (.int (i32 (A 7 (s).toNat)))) (st' := []) rfl rfl ?_
  obtain ⟨L2, eL2⟩ : ∃ q, q = jSto1 [(0, .ref 66), (1, .int (i32 (s))), (2, .int (i32 (place))), (3, .int (i32 (ch)))] 4 (.int (i32 (A 7 (s).toNat))) := ⟨_, rfl⟩
  rw [← eL2]
  have gL2_0 : jGet L2 0 = some (.ref 66) := eL2 ▸ jg_ne (by decide) (rfl : jGet [(0, .ref 66), (1, .int (i32 (s))), (2, .int (i32 (place))), (3, .int (i32 (ch)))] 0 = some (.ref 66)) rfl
  have gL2_1 : jGet L2 1 = some (.int (i32 (s))) := eL2 ▸ jg_ne (by decide) (rfl : jGet [(0, .ref 66), (1, .int (i32 (s))), (2, .int (i32 (place))), (3, .int (i32 (ch)))] 1 = some (.int (i32 (s)))) rfl
  have gL2_2 : jGet L2 2 = some (.int (i32 (place))) := eL2 ▸ jg_ne (by decide) (rfl : jGet [(0, .ref 66), (1, .int (i32 (s))), (2, .int (i32 (place))), (3, .int (i32 (ch)))] 2 = some (.int (i32 (place)))) rfl
  have gL2_3 : jGet L2 3 = some (.int (i32 (ch))) := eL2 ▸ jg_ne (by decide) (rfl : jGet [(0, .ref 66), (1, .int (i32 (s))), (2, .int (i32 (place))), (3, .int (i32 (ch)))] 3 = some (.int (i32 (ch)))) rfl
  have gL2_4 : jGet L2 4 = some (.int (i32 (A 7 (s).toNat))) := eL2 ▸ jg_eq
  refine jx_ld (pc' := 9) (l' := L2) (st' := [.ref 66]) rfl (jl_aloadn gL2_0) ?_
  refine jx_ar (pc' := 11) (st' := [.int (i32 (91)), .ref 66]) rfl rfl rfl rfl ?_
  have b3 : (-2147483648 : Int) ≤ G 13 ∧ G 13 ≤ 2147483647 := hW.1 13
  refine jx_vr (pc' := 14) (as := [.int (i32 (91))]) (st := []) rfl rfl rfl rfl ⟨rfl, rfl, Nat.le_of_ble_eq_true rfl⟩ rfl rfl (c_is (dd := d) (hd := by omega) (hW := hW) (k := 91) (tk := tk0) (e_tk := show G 11 = tk0 from (e_tk0)) (tn := G 13) (e_tn := show G 13 = G 13 from rfl)  (h_k := ⟨(by decide), (by decide)⟩)  ) (fun o V' hq => ?_)
  obtain ⟨r4, rfl, rfl, b5, q6⟩ := hq
  refine .inr ⟨_, rfl, ?_⟩
  rcases q6 with ⟨rfl, a7, a8, a9⟩ | rfl
  · have _q : True := trivial
    refine jx_if_eq (pc' := 17) (tg := 63) rfl rfl rfl (by decide) (by decide) (fun h10 => ?_) (fun h10 => ?_)
    · have _q := h10
      exact absurd h10 (by omega)
    · have _q := h10
      refine jx_ld (pc' := 18) (l' := L2) (st' := [.int (i32 (ch))]) rfl (jl_iloadn gL2_3) ?_
      refine jx_if_eq (pc' := 21) (tg := 30) rfl rfl rfl (Int.le_trans (by decide : (-2147483648 : Int) ≤ 0) h_ch.1) (Int.le_trans h_ch.2 (by decide : (1 : Int) ≤ 2147483647)) (fun h11 => ?_) (fun h11 => ?_)
      · have _q := h11
        refine jx_ld (pc' := 32) (l' := L2) (st' := [.int (i32 (A 7 (s).toNat))]) rfl (jl_iload gL2_4) ?_
        refine jx_st (pc' := 35) (as := [.int (i32 (A 7 (s).toNat))]) (st := []) rfl rfl ⟨rfl, Nat.le_of_ble_eq_true rfl⟩ rfl rfl rfl (c_isArray (dd := d) (hd := by omega) (k := A 7 (s).toNat)   (h_k := ⟨(Int.le_trans (by decide : (-2147483648 : Int) ≤ 0) b1.1), (Int.le_trans b1.2 (by decide : (14 : Int) ≤ 2147483647))⟩)  ) (fun o V' hq => ?_)
        obtain ⟨r12, rfl, rfl, b13, q14⟩ := hq
        refine .inr ⟨_, rfl, ?_⟩
        rcases q14 with ⟨rfl, a15⟩ | rfl
        · have _q : True := trivial
          refine jx_if_ne (pc' := 38) (tg := 46) rfl rfl rfl (by decide) (by decide) (fun h16 => ?_) (fun h16 => ?_)
          · have _q := h16
            refine jx_ld (pc' := 47) (l' := L2) (st' := [.ref 66]) rfl (jl_aloadn gL2_0) ?_
            refine jx_vr (pc' := 50) (as := []) (st := []) rfl rfl rfl rfl ⟨rfl, rfl, Nat.le_of_ble_eq_true rfl⟩ rfl rfl (c_readIndex_w (dd := d) (k := 9) (hE := REw_all X 9) (hd := by omega) (hW := hW)  (ln := ln) (e_ln := show G 9 = ln from (e_ln)) (le := le) (e_le := show A 4 (ln).toNat = le from (e_le)) (at0 := at0) (e_at0 := show G 10 = at0 from (e_at0)) (fk := fk) (e_fk := show G 16 = fk from (e_fk)) (op0 := op0) (e_op0 := show G 15 = op0 from (e_op0)) (nd := nd) (e_nd := show G 31 = nd from (e_nd)) (tk0 := tk0) (e_tk0 := show G 11 = tk0 from (e_tk0)) (ec := ec) (e_ec := show ecn A (G 31) = ec from e_ec) (i_SV := (SV_ext (rfl) (rfl) i_SV))   (p_0 := by omega) (p_1 := by omega) (p_2 := by omega) (p_3 := by omega) (p_4 := by omega) (p_5 := by omega) (p_6 := by omega) (p_7 := by omega) (p_8 := by omega)) (fun o V' hq => ?_)
            obtain ⟨G17, A18, r19, at2_20, fk2_21, op2_22, nd2_23, tk2_24, ec2_25, rfl, rfl, hW26, hF27, hQ28, b29, e30, e31, e32, e33, e34, e35, p36, p37, p38, p39, p40, p41, q42⟩ := hq
            have hF43 := Fr_tr hF0 hF27 (Fr_sub (by decide)) (Fr_sub (by decide))
            have hP44 := Pf_tr hP0 hQ28 (by omega)
            have bat2_20 : (0 : Int) ≤ at2_20 ∧ at2_20 ≤ 3002 := e30 ▸ hW26.1 10
            have bfk2_21 : (0 : Int) ≤ fk2_21 ∧ fk2_21 ≤ 6 := e31 ▸ hW26.1 16
            have bop2_22 : (-2147483648 : Int) ≤ op2_22 ∧ op2_22 ≤ 2147483647 := e32 ▸ hW26.1 15
            have bnd2_23 : (0 : Int) ≤ nd2_23 ∧ nd2_23 ≤ 6999 := e33 ▸ hW26.1 31
            have ztk2_24 := tz_b tk2_24
            have btk2_24 : (0 : Int) ≤ tk2_24 ∧ tk2_24 ≤ 5 := e34 ▸ hW26.1 11
            refine .inr ⟨_, rfl, ?_⟩
            rcases q42 with ⟨a45, a46, a47⟩ | ⟨a48, a49, a50, a51, a52⟩
            · have _q : True := trivial
              refine jx_ld (pc' := 52) (l' := jSto1 L2 5 (.int (i32 (r19)))) (st' := []) rfl rfl ?_
              obtain ⟨L53, eL53⟩ : ∃ q, q = jSto1 L2 5 (.int (i32 (r19))) := ⟨_, rfl⟩
              rw [← eL53]
              have gL53_0 : jGet L53 0 = some (.ref 66) := eL53 ▸ jg_ne (by decide) gL2_0 rfl
              have gL53_1 : jGet L53 1 = some (.int (i32 (s))) := eL53 ▸ jg_ne (by decide) gL2_1 rfl
              have gL53_2 : jGet L53 2 = some (.int (i32 (place))) := eL53 ▸ jg_ne (by decide) gL2_2 rfl
              have gL53_3 : jGet L53 3 = some (.int (i32 (ch))) := eL53 ▸ jg_ne (by decide) gL2_3 rfl
              have gL53_4 : jGet L53 4 = some (.int (i32 (A 7 (s).toNat))) := eL53 ▸ jg_ne (by decide) gL2_4 rfl
              have gL53_5 : jGet L53 5 = some (.int (i32 (r19))) := eL53 ▸ jg_eq
              refine jx_ld (pc' := 53) (l' := L53) (st' := [.ref 66]) rfl (jl_aloadn gL53_0) ?_
              refine jx_ar (pc' := 54) (st' := [.int (i32 (3)), .ref 66]) rfl rfl rfl rfl ?_
              refine jx_ld (pc' := 55) (l' := L53) (st' := [.int (i32 (s)), .int (i32 (3)), .ref 66]) rfl (jl_iloadn gL53_1) ?_
              refine jx_ld (pc' := 57) (l' := L53) (st' := [.int (i32 (r19)), .int (i32 (s)), .int (i32 (3)), .ref 66]) rfl (jl_iload gL53_5) ?_
              refine jx_ar (pc' := 58) (st' := [.int (i32 (0)), .int (i32 (r19)), .int (i32 (s)), .int (i32 (3)), .ref 66]) rfl rfl rfl rfl ?_
              refine jx_ar (pc' := 59) (st' := [.int (i32 (0)), .int (i32 (0)), .int (i32 (r19)), .int (i32 (s)), .int (i32 (3)), .ref 66]) rfl rfl rfl rfl ?_
              refine jx_vr (pc' := 62) (as := [.int (i32 (3)), .int (i32 (s)), .int (i32 (r19)), .int (i32 (0)), .int (i32 (0))]) (st := []) rfl rfl rfl rfl ⟨rfl, rfl, Nat.le_of_ble_eq_true rfl⟩ rfl rfl (c_node_e (dd := d) (hd := by omega) (hW := hW26) (kind := 3) (a := s) (b := r19) (c := 0) (e := 0) (nd := nd2_23) (e_nd := show G17 31 = nd2_23 from (e33)) (ec := ec2_25) (e_ec := show ecn A18 (G17 31) = ec2_25 from e35)  (h_kind := ⟨(by decide), (by decide)⟩) (h_a := ⟨(Int.le_trans (by decide : (-2147483648 : Int) ≤ -2147483648) h_s.1), (Int.le_trans h_s.2 (by decide : (2147483647 : Int) ≤ 2147483647))⟩) (h_b := ⟨(Int.le_trans (by decide : (-2147483648 : Int) ≤ -2147483648) b29.1), (Int.le_trans b29.2 (by decide : (2147483647 : Int) ≤ 2147483647))⟩) (h_c := ⟨(by decide), (by decide)⟩) (h_e := ⟨(by decide), (by decide)⟩)  (p_0 := by omega) (p_1 := by omega) (p_2 := by omega)) (fun o V' hq => ?_)
              obtain ⟨G54, A55, nd2_56, ec2_57, rfl, rfl, hW58, hF59, hQ60, e61, e62, p63, p64, p65, -⟩ := hq
              have hF67 := Fr_tr hF43 hF59 (Fr_sub (by decide)) (Fr_sub (by decide))
              have hP68 := Pf_tr hP44 hQ60 (by omega)
              have bnd2_56 : (0 : Int) ≤ nd2_56 ∧ nd2_56 ≤ 6999 := e61 ▸ hW58.1 31
              refine .inr ⟨_, rfl, ?_⟩
              refine jx_rt (v := some (.int (i32 (nd2_23)))) rfl rfl rfl rfl rfl rfl ?_
              have z69 := tz_f (tk2_24)
              exact ⟨_, _, _, at2_20, fk2_21, op2_22, nd2_56, tk2_24, ec2_57, rfl, rfl, hW58, hF67, hP68, by omega, ((hF59.1 10 rfl).trans (e30)), ((hF59.1 16 rfl).trans (e31)), ((hF59.1 15 rfl).trans (e32)), (e61), ((hF59.1 11 rfl).trans (e34)), e62, by omega, by omega, by omega, by omega, by omega, by omega, by first | exact Or.inl (⟨by omega, by omega, by omega⟩)⟩
            · have _q : True := trivial
              refine jx_ld (pc' := 52) (l' := jSto1 L2 5 (.int (i32 (r19)))) (st' := []) rfl rfl ?_
              obtain ⟨L70, eL70⟩ : ∃ q, q = jSto1 L2 5 (.int (i32 (r19))) := ⟨_, rfl⟩
              rw [← eL70]
              have gL70_0 : jGet L70 0 = some (.ref 66) := eL70 ▸ jg_ne (by decide) gL2_0 rfl
              have gL70_1 : jGet L70 1 = some (.int (i32 (s))) := eL70 ▸ jg_ne (by decide) gL2_1 rfl
              have gL70_2 : jGet L70 2 = some (.int (i32 (place))) := eL70 ▸ jg_ne (by decide) gL2_2 rfl
              have gL70_3 : jGet L70 3 = some (.int (i32 (ch))) := eL70 ▸ jg_ne (by decide) gL2_3 rfl
              have gL70_4 : jGet L70 4 = some (.int (i32 (A 7 (s).toNat))) := eL70 ▸ jg_ne (by decide) gL2_4 rfl
              have gL70_5 : jGet L70 5 = some (.int (i32 (r19))) := eL70 ▸ jg_eq
              refine jx_ld (pc' := 53) (l' := L70) (st' := [.ref 66]) rfl (jl_aloadn gL70_0) ?_
              refine jx_ar (pc' := 54) (st' := [.int (i32 (3)), .ref 66]) rfl rfl rfl rfl ?_
              refine jx_ld (pc' := 55) (l' := L70) (st' := [.int (i32 (s)), .int (i32 (3)), .ref 66]) rfl (jl_iloadn gL70_1) ?_
              refine jx_ld (pc' := 57) (l' := L70) (st' := [.int (i32 (r19)), .int (i32 (s)), .int (i32 (3)), .ref 66]) rfl (jl_iload gL70_5) ?_
              refine jx_ar (pc' := 58) (st' := [.int (i32 (0)), .int (i32 (r19)), .int (i32 (s)), .int (i32 (3)), .ref 66]) rfl rfl rfl rfl ?_
              refine jx_ar (pc' := 59) (st' := [.int (i32 (0)), .int (i32 (0)), .int (i32 (r19)), .int (i32 (s)), .int (i32 (3)), .ref 66]) rfl rfl rfl rfl ?_
              refine jx_vr (pc' := 62) (as := [.int (i32 (3)), .int (i32 (s)), .int (i32 (r19)), .int (i32 (0)), .int (i32 (0))]) (st := []) rfl rfl rfl rfl ⟨rfl, rfl, Nat.le_of_ble_eq_true rfl⟩ rfl rfl (c_node_e (dd := d) (hd := by omega) (hW := hW26) (kind := 3) (a := s) (b := r19) (c := 0) (e := 0) (nd := nd2_23) (e_nd := show G17 31 = nd2_23 from (e33)) (ec := ec2_25) (e_ec := show ecn A18 (G17 31) = ec2_25 from e35)  (h_kind := ⟨(by decide), (by decide)⟩) (h_a := ⟨(Int.le_trans (by decide : (-2147483648 : Int) ≤ -2147483648) h_s.1), (Int.le_trans h_s.2 (by decide : (2147483647 : Int) ≤ 2147483647))⟩) (h_b := ⟨(Int.le_trans (by decide : (-2147483648 : Int) ≤ -2147483648) b29.1), (Int.le_trans b29.2 (by decide : (2147483647 : Int) ≤ 2147483647))⟩) (h_c := ⟨(by decide), (by decide)⟩) (h_e := ⟨(by decide), (by decide)⟩)  (p_0 := by omega) (p_1 := by omega) (p_2 := by omega)) (fun o V' hq => ?_)
              obtain ⟨G71, A72, nd2_73, ec2_74, rfl, rfl, hW75, hF76, hQ77, e78, e79, p80, p81, p82, -⟩ := hq
              have hF84 := Fr_tr hF43 hF76 (Fr_sub (by decide)) (Fr_sub (by decide))
              have hP85 := Pf_tr hP44 hQ77 (by omega)
              have sf86 : wE A72 Vs sb (2 * 9 + 2) (r19) (nd) (nd2_23) := wE_ag (by omega) (Sg_fr hF76 (by decide)) (Ag_pf hQ77 (by omega)) a51
              have bnd2_73 : (0 : Int) ≤ nd2_73 ∧ nd2_73 ≤ 6999 := e78 ▸ hW75.1 31
              refine .inr ⟨_, rfl, ?_⟩
              refine jx_rt (v := some (.int (i32 (nd2_23)))) rfl rfl rfl rfl rfl rfl ?_
              have z87 := tz_f (tk2_24)
              exact ⟨_, _, _, at2_20, fk2_21, op2_22, nd2_73, tk2_24, ec2_74, rfl, rfl, hW75, hF84, hP85, by omega, ((hF76.1 10 rfl).trans (e30)), ((hF76.1 16 rfl).trans (e31)), ((hF76.1 15 rfl).trans (e32)), (e78), ((hF76.1 11 rfl).trans (e34)), e79, by omega, by omega, by omega, by omega, by omega, by omega, by first | exact Or.inr ((⟨by omega, by omega, by omega, (wR_elem p82 (by omega) (by omega) p_9 (kq (P := kRow (ch)) (show A72 7 (s).toNat = A 7 (s).toNat from (congrFun ((hF76.2 7 rfl).trans (hF27.2 7 rfl)) _)) (by first | exact .inl ⟨by omega, a15⟩ | exact .inr ⟨by omega, by omega⟩)) (wE_mono (by omega) (by omega) (by omega) sf86)), by omega⟩))⟩
          · have _q := h16
            exact absurd h16 (by omega)
        · have _q : True := trivial
          refine jx_if_ne (pc' := 38) (tg := 46) rfl rfl rfl (by decide) (by decide) (fun h88 => ?_) (fun h88 => ?_)
          · have _q := h88
            exact absurd h88 (by omega)
          · have _q := h88
            refine jx_ld (pc' := 39) (l' := L2) (st' := [.ref 66]) rfl (jl_aloadn gL2_0) ?_
            refine jx_ar (pc' := 40) (st' := [.int (i32 (4)), .ref 66]) rfl rfl rfl rfl ?_
            refine jx_ld (pc' := 41) (l' := L2) (st' := [.int (i32 (place)), .int (i32 (4)), .ref 66]) rfl (jl_iloadn gL2_2) ?_
            refine jx_vr (pc' := 44) (as := [.int (i32 (4)), .int (i32 (place))]) (st := []) rfl rfl rfl rfl ⟨rfl, rfl, Nat.le_of_ble_eq_true rfl⟩ rfl rfl (c_fail (dd := d) (hd := by omega) (hW := hW) (kind := 4) (place := place) (fk := fk) (e_fk := show G 16 = fk from (e_fk))  (h_kind := ⟨(by decide), (by decide)⟩) (h_place := ⟨(Int.le_trans (by decide : (-2147483648 : Int) ≤ -2147483648) h_place.1), (Int.le_trans h_place.2 (by decide : (2147483647 : Int) ≤ 2147483647))⟩)  (p_0 := by omega) (p_1 := by omega)) (fun o V' hq => ?_)
            obtain ⟨G89, A90, fk2_91, rfl, rfl, hW92, hF93, e94, p95, -⟩ := hq
            have hF97 := Fr_tr hF0 hF93 (Fr_sub (by decide)) (Fr_sub (by decide))
            have hP98 := Pf_f hP0 hF93 (by decide)
            have ec99 : ecn A90 (G89 31) = ec := (ecn_f (hF93.2 15 rfl) (hF93.1 31 rfl)).trans e_ec
            have bfk2_91 : (0 : Int) ≤ fk2_91 ∧ fk2_91 ≤ 6 := e94 ▸ hW92.1 16
            refine .inl ⟨rfl, ?_⟩
            refine jx_ar (pc' := 45) (st' := [.int (i32 (0))]) rfl rfl rfl rfl ?_
            refine jx_rt (v := some (.int (i32 (0)))) rfl rfl rfl rfl rfl rfl ?_
            have z100 := tz_f (tk0)
            exact ⟨_, _, _, at0, fk2_91, op0, nd, tk0, ec, rfl, rfl, hW92, hF97, hP98, by omega, ((hF93.1 10 rfl).trans (e_at0)), (e94), ((hF93.1 15 rfl).trans (e_op0)), ((hF93.1 31 rfl).trans (e_nd)), ((hF93.1 11 rfl).trans (e_tk0)), ec99, by omega, by omega, by omega, by omega, by omega, by omega, by first | exact Or.inl (⟨by omega, by omega, by omega⟩)⟩
      · have _q := h11
        refine jx_ld (pc' := 23) (l' := L2) (st' := [.int (i32 (A 7 (s).toNat))]) rfl (jl_iload gL2_4) ?_
        refine jx_ar (pc' := 24) (st' := [.int (i32 (4)), .int (i32 (A 7 (s).toNat))]) rfl rfl rfl rfl ?_
        refine jx_icmp_eq (pc' := 27) (tg := 46) rfl rfl rfl (Int.le_trans (by decide : (-2147483648 : Int) ≤ 0) b1.1) (Int.le_trans b1.2 (by decide : (14 : Int) ≤ 2147483647)) (by decide) (by decide) (fun h101 => ?_) (fun h101 => ?_)
        · have _q := h101
          refine jx_ld (pc' := 47) (l' := L2) (st' := [.ref 66]) rfl (jl_aloadn gL2_0) ?_
          refine jx_vr (pc' := 50) (as := []) (st := []) rfl rfl rfl rfl ⟨rfl, rfl, Nat.le_of_ble_eq_true rfl⟩ rfl rfl (c_readIndex_w (dd := d) (k := 9) (hE := REw_all X 9) (hd := by omega) (hW := hW)  (ln := ln) (e_ln := show G 9 = ln from (e_ln)) (le := le) (e_le := show A 4 (ln).toNat = le from (e_le)) (at0 := at0) (e_at0 := show G 10 = at0 from (e_at0)) (fk := fk) (e_fk := show G 16 = fk from (e_fk)) (op0 := op0) (e_op0 := show G 15 = op0 from (e_op0)) (nd := nd) (e_nd := show G 31 = nd from (e_nd)) (tk0 := tk0) (e_tk0 := show G 11 = tk0 from (e_tk0)) (ec := ec) (e_ec := show ecn A (G 31) = ec from e_ec) (i_SV := (SV_ext (rfl) (rfl) i_SV))   (p_0 := by omega) (p_1 := by omega) (p_2 := by omega) (p_3 := by omega) (p_4 := by omega) (p_5 := by omega) (p_6 := by omega) (p_7 := by omega) (p_8 := by omega)) (fun o V' hq => ?_)
          obtain ⟨G102, A103, r104, at2_105, fk2_106, op2_107, nd2_108, tk2_109, ec2_110, rfl, rfl, hW111, hF112, hQ113, b114, e115, e116, e117, e118, e119, e120, p121, p122, p123, p124, p125, p126, q127⟩ := hq
          have hF128 := Fr_tr hF0 hF112 (Fr_sub (by decide)) (Fr_sub (by decide))
          have hP129 := Pf_tr hP0 hQ113 (by omega)
          have bat2_105 : (0 : Int) ≤ at2_105 ∧ at2_105 ≤ 3002 := e115 ▸ hW111.1 10
          have bfk2_106 : (0 : Int) ≤ fk2_106 ∧ fk2_106 ≤ 6 := e116 ▸ hW111.1 16
          have bop2_107 : (-2147483648 : Int) ≤ op2_107 ∧ op2_107 ≤ 2147483647 := e117 ▸ hW111.1 15
          have bnd2_108 : (0 : Int) ≤ nd2_108 ∧ nd2_108 ≤ 6999 := e118 ▸ hW111.1 31
          have ztk2_109 := tz_b tk2_109
          have btk2_109 : (0 : Int) ≤ tk2_109 ∧ tk2_109 ≤ 5 := e119 ▸ hW111.1 11
          refine .inr ⟨_, rfl, ?_⟩
          rcases q127 with ⟨a130, a131, a132⟩ | ⟨a133, a134, a135, a136, a137⟩
          · have _q : True := trivial
            refine jx_ld (pc' := 52) (l' := jSto1 L2 5 (.int (i32 (r104)))) (st' := []) rfl rfl ?_
            obtain ⟨L138, eL138⟩ : ∃ q, q = jSto1 L2 5 (.int (i32 (r104))) := ⟨_, rfl⟩
            rw [← eL138]
            have gL138_0 : jGet L138 0 = some (.ref 66) := eL138 ▸ jg_ne (by decide) gL2_0 rfl
            have gL138_1 : jGet L138 1 = some (.int (i32 (s))) := eL138 ▸ jg_ne (by decide) gL2_1 rfl
            have gL138_2 : jGet L138 2 = some (.int (i32 (place))) := eL138 ▸ jg_ne (by decide) gL2_2 rfl
            have gL138_3 : jGet L138 3 = some (.int (i32 (ch))) := eL138 ▸ jg_ne (by decide) gL2_3 rfl
            have gL138_4 : jGet L138 4 = some (.int (i32 (A 7 (s).toNat))) := eL138 ▸ jg_ne (by decide) gL2_4 rfl
            have gL138_5 : jGet L138 5 = some (.int (i32 (r104))) := eL138 ▸ jg_eq
            refine jx_ld (pc' := 53) (l' := L138) (st' := [.ref 66]) rfl (jl_aloadn gL138_0) ?_
            refine jx_ar (pc' := 54) (st' := [.int (i32 (3)), .ref 66]) rfl rfl rfl rfl ?_
            refine jx_ld (pc' := 55) (l' := L138) (st' := [.int (i32 (s)), .int (i32 (3)), .ref 66]) rfl (jl_iloadn gL138_1) ?_
            refine jx_ld (pc' := 57) (l' := L138) (st' := [.int (i32 (r104)), .int (i32 (s)), .int (i32 (3)), .ref 66]) rfl (jl_iload gL138_5) ?_
            refine jx_ar (pc' := 58) (st' := [.int (i32 (0)), .int (i32 (r104)), .int (i32 (s)), .int (i32 (3)), .ref 66]) rfl rfl rfl rfl ?_
            refine jx_ar (pc' := 59) (st' := [.int (i32 (0)), .int (i32 (0)), .int (i32 (r104)), .int (i32 (s)), .int (i32 (3)), .ref 66]) rfl rfl rfl rfl ?_
            refine jx_vr (pc' := 62) (as := [.int (i32 (3)), .int (i32 (s)), .int (i32 (r104)), .int (i32 (0)), .int (i32 (0))]) (st := []) rfl rfl rfl rfl ⟨rfl, rfl, Nat.le_of_ble_eq_true rfl⟩ rfl rfl (c_node_e (dd := d) (hd := by omega) (hW := hW111) (kind := 3) (a := s) (b := r104) (c := 0) (e := 0) (nd := nd2_108) (e_nd := show G102 31 = nd2_108 from (e118)) (ec := ec2_110) (e_ec := show ecn A103 (G102 31) = ec2_110 from e120)  (h_kind := ⟨(by decide), (by decide)⟩) (h_a := ⟨(Int.le_trans (by decide : (-2147483648 : Int) ≤ -2147483648) h_s.1), (Int.le_trans h_s.2 (by decide : (2147483647 : Int) ≤ 2147483647))⟩) (h_b := ⟨(Int.le_trans (by decide : (-2147483648 : Int) ≤ -2147483648) b114.1), (Int.le_trans b114.2 (by decide : (2147483647 : Int) ≤ 2147483647))⟩) (h_c := ⟨(by decide), (by decide)⟩) (h_e := ⟨(by decide), (by decide)⟩)  (p_0 := by omega) (p_1 := by omega) (p_2 := by omega)) (fun o V' hq => ?_)
            obtain ⟨G139, A140, nd2_141, ec2_142, rfl, rfl, hW143, hF144, hQ145, e146, e147, p148, p149, p150, -⟩ := hq
            have hF152 := Fr_tr hF128 hF144 (Fr_sub (by decide)) (Fr_sub (by decide))
            have hP153 := Pf_tr hP129 hQ145 (by omega)
            have bnd2_141 : (0 : Int) ≤ nd2_141 ∧ nd2_141 ≤ 6999 := e146 ▸ hW143.1 31
            refine .inr ⟨_, rfl, ?_⟩
            refine jx_rt (v := some (.int (i32 (nd2_108)))) rfl rfl rfl rfl rfl rfl ?_
            have z154 := tz_f (tk2_109)
            exact ⟨_, _, _, at2_105, fk2_106, op2_107, nd2_141, tk2_109, ec2_142, rfl, rfl, hW143, hF152, hP153, by omega, ((hF144.1 10 rfl).trans (e115)), ((hF144.1 16 rfl).trans (e116)), ((hF144.1 15 rfl).trans (e117)), (e146), ((hF144.1 11 rfl).trans (e119)), e147, by omega, by omega, by omega, by omega, by omega, by omega, by first | exact Or.inl (⟨by omega, by omega, by omega⟩)⟩
          · have _q : True := trivial
            refine jx_ld (pc' := 52) (l' := jSto1 L2 5 (.int (i32 (r104)))) (st' := []) rfl rfl ?_
            obtain ⟨L155, eL155⟩ : ∃ q, q = jSto1 L2 5 (.int (i32 (r104))) := ⟨_, rfl⟩
            rw [← eL155]
            have gL155_0 : jGet L155 0 = some (.ref 66) := eL155 ▸ jg_ne (by decide) gL2_0 rfl
            have gL155_1 : jGet L155 1 = some (.int (i32 (s))) := eL155 ▸ jg_ne (by decide) gL2_1 rfl
            have gL155_2 : jGet L155 2 = some (.int (i32 (place))) := eL155 ▸ jg_ne (by decide) gL2_2 rfl
            have gL155_3 : jGet L155 3 = some (.int (i32 (ch))) := eL155 ▸ jg_ne (by decide) gL2_3 rfl
            have gL155_4 : jGet L155 4 = some (.int (i32 (A 7 (s).toNat))) := eL155 ▸ jg_ne (by decide) gL2_4 rfl
            have gL155_5 : jGet L155 5 = some (.int (i32 (r104))) := eL155 ▸ jg_eq
            refine jx_ld (pc' := 53) (l' := L155) (st' := [.ref 66]) rfl (jl_aloadn gL155_0) ?_
            refine jx_ar (pc' := 54) (st' := [.int (i32 (3)), .ref 66]) rfl rfl rfl rfl ?_
            refine jx_ld (pc' := 55) (l' := L155) (st' := [.int (i32 (s)), .int (i32 (3)), .ref 66]) rfl (jl_iloadn gL155_1) ?_
            refine jx_ld (pc' := 57) (l' := L155) (st' := [.int (i32 (r104)), .int (i32 (s)), .int (i32 (3)), .ref 66]) rfl (jl_iload gL155_5) ?_
            refine jx_ar (pc' := 58) (st' := [.int (i32 (0)), .int (i32 (r104)), .int (i32 (s)), .int (i32 (3)), .ref 66]) rfl rfl rfl rfl ?_
            refine jx_ar (pc' := 59) (st' := [.int (i32 (0)), .int (i32 (0)), .int (i32 (r104)), .int (i32 (s)), .int (i32 (3)), .ref 66]) rfl rfl rfl rfl ?_
            refine jx_vr (pc' := 62) (as := [.int (i32 (3)), .int (i32 (s)), .int (i32 (r104)), .int (i32 (0)), .int (i32 (0))]) (st := []) rfl rfl rfl rfl ⟨rfl, rfl, Nat.le_of_ble_eq_true rfl⟩ rfl rfl (c_node_e (dd := d) (hd := by omega) (hW := hW111) (kind := 3) (a := s) (b := r104) (c := 0) (e := 0) (nd := nd2_108) (e_nd := show G102 31 = nd2_108 from (e118)) (ec := ec2_110) (e_ec := show ecn A103 (G102 31) = ec2_110 from e120)  (h_kind := ⟨(by decide), (by decide)⟩) (h_a := ⟨(Int.le_trans (by decide : (-2147483648 : Int) ≤ -2147483648) h_s.1), (Int.le_trans h_s.2 (by decide : (2147483647 : Int) ≤ 2147483647))⟩) (h_b := ⟨(Int.le_trans (by decide : (-2147483648 : Int) ≤ -2147483648) b114.1), (Int.le_trans b114.2 (by decide : (2147483647 : Int) ≤ 2147483647))⟩) (h_c := ⟨(by decide), (by decide)⟩) (h_e := ⟨(by decide), (by decide)⟩)  (p_0 := by omega) (p_1 := by omega) (p_2 := by omega)) (fun o V' hq => ?_)
            obtain ⟨G156, A157, nd2_158, ec2_159, rfl, rfl, hW160, hF161, hQ162, e163, e164, p165, p166, p167, -⟩ := hq
            have hF169 := Fr_tr hF128 hF161 (Fr_sub (by decide)) (Fr_sub (by decide))
            have hP170 := Pf_tr hP129 hQ162 (by omega)
            have sf171 : wE A157 Vs sb (2 * 9 + 2) (r104) (nd) (nd2_108) := wE_ag (by omega) (Sg_fr hF161 (by decide)) (Ag_pf hQ162 (by omega)) a136
            have bnd2_158 : (0 : Int) ≤ nd2_158 ∧ nd2_158 ≤ 6999 := e163 ▸ hW160.1 31
            refine .inr ⟨_, rfl, ?_⟩
            refine jx_rt (v := some (.int (i32 (nd2_108)))) rfl rfl rfl rfl rfl rfl ?_
            have z172 := tz_f (tk2_109)
            exact ⟨_, _, _, at2_105, fk2_106, op2_107, nd2_158, tk2_109, ec2_159, rfl, rfl, hW160, hF169, hP170, by omega, ((hF161.1 10 rfl).trans (e115)), ((hF161.1 16 rfl).trans (e116)), ((hF161.1 15 rfl).trans (e117)), (e163), ((hF161.1 11 rfl).trans (e119)), e164, by omega, by omega, by omega, by omega, by omega, by omega, by first | exact Or.inr ((⟨by omega, by omega, by omega, (wR_elem p167 (by omega) (by omega) p_9 (kq (P := kRow (ch)) (show A157 7 (s).toNat = A 7 (s).toNat from (congrFun ((hF161.2 7 rfl).trans (hF112.2 7 rfl)) _)) (by first | exact .inr ⟨by omega, by omega⟩)) (wE_mono (by omega) (by omega) (by omega) sf171)), by omega⟩))⟩
        · have _q := h101
          refine jx_go (tg := 38) rfl rfl ?_
          refine jx_ld (pc' := 39) (l' := L2) (st' := [.ref 66]) rfl (jl_aloadn gL2_0) ?_
          refine jx_ar (pc' := 40) (st' := [.int (i32 (4)), .ref 66]) rfl rfl rfl rfl ?_
          refine jx_ld (pc' := 41) (l' := L2) (st' := [.int (i32 (place)), .int (i32 (4)), .ref 66]) rfl (jl_iloadn gL2_2) ?_
          refine jx_vr (pc' := 44) (as := [.int (i32 (4)), .int (i32 (place))]) (st := []) rfl rfl rfl rfl ⟨rfl, rfl, Nat.le_of_ble_eq_true rfl⟩ rfl rfl (c_fail (dd := d) (hd := by omega) (hW := hW) (kind := 4) (place := place) (fk := fk) (e_fk := show G 16 = fk from (e_fk))  (h_kind := ⟨(by decide), (by decide)⟩) (h_place := ⟨(Int.le_trans (by decide : (-2147483648 : Int) ≤ -2147483648) h_place.1), (Int.le_trans h_place.2 (by decide : (2147483647 : Int) ≤ 2147483647))⟩)  (p_0 := by omega) (p_1 := by omega)) (fun o V' hq => ?_)
          obtain ⟨G173, A174, fk2_175, rfl, rfl, hW176, hF177, e178, p179, -⟩ := hq
          have hF181 := Fr_tr hF0 hF177 (Fr_sub (by decide)) (Fr_sub (by decide))
          have hP182 := Pf_f hP0 hF177 (by decide)
          have ec183 : ecn A174 (G173 31) = ec := (ecn_f (hF177.2 15 rfl) (hF177.1 31 rfl)).trans e_ec
          have bfk2_175 : (0 : Int) ≤ fk2_175 ∧ fk2_175 ≤ 6 := e178 ▸ hW176.1 16
          refine .inl ⟨rfl, ?_⟩
          refine jx_ar (pc' := 45) (st' := [.int (i32 (0))]) rfl rfl rfl rfl ?_
          refine jx_rt (v := some (.int (i32 (0)))) rfl rfl rfl rfl rfl rfl ?_
          have z184 := tz_f (tk0)
          exact ⟨_, _, _, at0, fk2_175, op0, nd, tk0, ec, rfl, rfl, hW176, hF181, hP182, by omega, ((hF177.1 10 rfl).trans (e_at0)), (e178), ((hF177.1 15 rfl).trans (e_op0)), ((hF177.1 31 rfl).trans (e_nd)), ((hF177.1 11 rfl).trans (e_tk0)), ec183, by omega, by omega, by omega, by omega, by omega, by omega, by first | exact Or.inl (⟨by omega, by omega, by omega⟩)⟩
  · have _q : True := trivial
    refine jx_if_eq (pc' := 17) (tg := 63) rfl rfl rfl (by decide) (by decide) (fun h185 => ?_) (fun h185 => ?_)
    · have _q := h185
      refine jx_ld (pc' := 64) (l' := L2) (st' := [.int (i32 (ch))]) rfl (jl_iloadn gL2_3) ?_
      refine jx_if_eq (pc' := 67) (tg := 78) rfl rfl rfl (Int.le_trans (by decide : (-2147483648 : Int) ≤ 0) h_ch.1) (Int.le_trans h_ch.2 (by decide : (1 : Int) ≤ 2147483647)) (fun h186 => ?_) (fun h186 => ?_)
      · have _q := h186
        refine jx_ld (pc' := 80) (l' := L2) (st' := [.int (i32 (A 7 (s).toNat))]) rfl (jl_iload gL2_4) ?_
        refine jx_st (pc' := 83) (as := [.int (i32 (A 7 (s).toNat))]) (st := []) rfl rfl ⟨rfl, Nat.le_of_ble_eq_true rfl⟩ rfl rfl rfl (c_isVariable (dd := d) (hd := by omega) (k := A 7 (s).toNat)   (h_k := ⟨(Int.le_trans (by decide : (-2147483648 : Int) ≤ 0) b1.1), (Int.le_trans b1.2 (by decide : (14 : Int) ≤ 2147483647))⟩)  ) (fun o V' hq => ?_)
        obtain ⟨r187, rfl, rfl, b188, q189⟩ := hq
        refine .inr ⟨_, rfl, ?_⟩
        rcases q189 with ⟨rfl, a190⟩ | rfl
        · have _q : True := trivial
          refine jx_if_ne (pc' := 86) (tg := 94) rfl rfl rfl (by decide) (by decide) (fun h191 => ?_) (fun h191 => ?_)
          · have _q := h191
            refine jx_ld (pc' := 95) (l' := L2) (st' := [.ref 66]) rfl (jl_aloadn gL2_0) ?_
            refine jx_ar (pc' := 96) (st' := [.int (i32 (2)), .ref 66]) rfl rfl rfl rfl ?_
            refine jx_ld (pc' := 97) (l' := L2) (st' := [.int (i32 (s)), .int (i32 (2)), .ref 66]) rfl (jl_iloadn gL2_1) ?_
            refine jx_ar (pc' := 98) (st' := [.int (i32 (0)), .int (i32 (s)), .int (i32 (2)), .ref 66]) rfl rfl rfl rfl ?_
            refine jx_ar (pc' := 99) (st' := [.int (i32 (0)), .int (i32 (0)), .int (i32 (s)), .int (i32 (2)), .ref 66]) rfl rfl rfl rfl ?_
            refine jx_ar (pc' := 100) (st' := [.int (i32 (0)), .int (i32 (0)), .int (i32 (0)), .int (i32 (s)), .int (i32 (2)), .ref 66]) rfl rfl rfl rfl ?_
            refine jx_vr (pc' := 103) (as := [.int (i32 (2)), .int (i32 (s)), .int (i32 (0)), .int (i32 (0)), .int (i32 (0))]) (st := []) rfl rfl rfl rfl ⟨rfl, rfl, Nat.le_of_ble_eq_true rfl⟩ rfl rfl (c_node_o (dd := d) (hd := by omega) (hW := hW) (kind := 2) (a := s) (b := 0) (c := 0) (e := 0) (nd := nd) (e_nd := show G 31 = nd from (e_nd)) (ec := ec) (e_ec := show ecn A (G 31) = ec from e_ec)  (h_kind := ⟨(by decide), (by decide)⟩) (h_a := ⟨(Int.le_trans (by decide : (-2147483648 : Int) ≤ -2147483648) h_s.1), (Int.le_trans h_s.2 (by decide : (2147483647 : Int) ≤ 2147483647))⟩) (h_b := ⟨(by decide), (by decide)⟩) (h_c := ⟨(by decide), (by decide)⟩) (h_e := ⟨(by decide), (by decide)⟩)  (p_0 := by omega) (p_1 := by omega) (p_2 := by omega)) (fun o V' hq => ?_)
            obtain ⟨G192, A193, nd2_194, ec2_195, rfl, rfl, hW196, hF197, hQ198, e199, e200, p201, p202, p203, -⟩ := hq
            have hF205 := Fr_tr hF0 hF197 (Fr_sub (by decide)) (Fr_sub (by decide))
            have hP206 := Pf_tr hP0 hQ198 (by omega)
            have bnd2_194 : (0 : Int) ≤ nd2_194 ∧ nd2_194 ≤ 6999 := e199 ▸ hW196.1 31
            refine .inr ⟨_, rfl, ?_⟩
            refine jx_rt (v := some (.int (i32 (nd)))) rfl rfl rfl rfl rfl rfl ?_
            have z207 := tz_f (tk0)
            exact ⟨_, _, _, at0, fk, op0, nd2_194, tk0, ec2_195, rfl, rfl, hW196, hF205, hP206, by omega, ((hF197.1 10 rfl).trans (e_at0)), ((hF197.1 16 rfl).trans (e_fk)), ((hF197.1 15 rfl).trans (e_op0)), (e199), ((hF197.1 11 rfl).trans (e_tk0)), e200, by omega, by omega, by omega, by omega, by omega, by omega, by first | exact Or.inr ((⟨by omega, by omega, by omega, (wR_var p203 (by omega) (by omega) p_9 (kq (P := kRef (ch)) (show A193 7 (s).toNat = A 7 (s).toNat from (congrFun (hF197.2 7 rfl) _)) (by first | exact .inl ⟨by omega, a190⟩))), by omega⟩))⟩
          · have _q := h191
            exact absurd h191 (by omega)
        · have _q : True := trivial
          refine jx_if_ne (pc' := 86) (tg := 94) rfl rfl rfl (by decide) (by decide) (fun h208 => ?_) (fun h208 => ?_)
          · have _q := h208
            exact absurd h208 (by omega)
          · have _q := h208
            refine jx_ld (pc' := 87) (l' := L2) (st' := [.ref 66]) rfl (jl_aloadn gL2_0) ?_
            refine jx_ar (pc' := 88) (st' := [.int (i32 (4)), .ref 66]) rfl rfl rfl rfl ?_
            refine jx_ld (pc' := 89) (l' := L2) (st' := [.int (i32 (place)), .int (i32 (4)), .ref 66]) rfl (jl_iloadn gL2_2) ?_
            refine jx_vr (pc' := 92) (as := [.int (i32 (4)), .int (i32 (place))]) (st := []) rfl rfl rfl rfl ⟨rfl, rfl, Nat.le_of_ble_eq_true rfl⟩ rfl rfl (c_fail (dd := d) (hd := by omega) (hW := hW) (kind := 4) (place := place) (fk := fk) (e_fk := show G 16 = fk from (e_fk))  (h_kind := ⟨(by decide), (by decide)⟩) (h_place := ⟨(Int.le_trans (by decide : (-2147483648 : Int) ≤ -2147483648) h_place.1), (Int.le_trans h_place.2 (by decide : (2147483647 : Int) ≤ 2147483647))⟩)  (p_0 := by omega) (p_1 := by omega)) (fun o V' hq => ?_)
            obtain ⟨G209, A210, fk2_211, rfl, rfl, hW212, hF213, e214, p215, -⟩ := hq
            have hF217 := Fr_tr hF0 hF213 (Fr_sub (by decide)) (Fr_sub (by decide))
            have hP218 := Pf_f hP0 hF213 (by decide)
            have ec219 : ecn A210 (G209 31) = ec := (ecn_f (hF213.2 15 rfl) (hF213.1 31 rfl)).trans e_ec
            have bfk2_211 : (0 : Int) ≤ fk2_211 ∧ fk2_211 ≤ 6 := e214 ▸ hW212.1 16
            refine .inl ⟨rfl, ?_⟩
            refine jx_ar (pc' := 93) (st' := [.int (i32 (0))]) rfl rfl rfl rfl ?_
            refine jx_rt (v := some (.int (i32 (0)))) rfl rfl rfl rfl rfl rfl ?_
            have z220 := tz_f (tk0)
            exact ⟨_, _, _, at0, fk2_211, op0, nd, tk0, ec, rfl, rfl, hW212, hF217, hP218, by omega, ((hF213.1 10 rfl).trans (e_at0)), (e214), ((hF213.1 15 rfl).trans (e_op0)), ((hF213.1 31 rfl).trans (e_nd)), ((hF213.1 11 rfl).trans (e_tk0)), ec219, by omega, by omega, by omega, by omega, by omega, by omega, by first | exact Or.inl (⟨by omega, by omega, by omega⟩)⟩
      · have _q := h186
        refine jx_ld (pc' := 69) (l' := L2) (st' := [.int (i32 (A 7 (s).toNat))]) rfl (jl_iload gL2_4) ?_
        refine jx_st (pc' := 72) (as := [.int (i32 (A 7 (s).toNat))]) (st := []) rfl rfl ⟨rfl, Nat.le_of_ble_eq_true rfl⟩ rfl rfl rfl (c_isChannel (dd := d) (hd := by omega) (k := A 7 (s).toNat)   (h_k := ⟨(Int.le_trans (by decide : (-2147483648 : Int) ≤ 0) b1.1), (Int.le_trans b1.2 (by decide : (14 : Int) ≤ 2147483647))⟩)  ) (fun o V' hq => ?_)
        obtain ⟨r221, rfl, rfl, b222, q223⟩ := hq
        refine .inr ⟨_, rfl, ?_⟩
        rcases q223 with ⟨rfl, a224⟩ | rfl
        · have _q : True := trivial
          refine jx_if_ne (pc' := 75) (tg := 94) rfl rfl rfl (by decide) (by decide) (fun h225 => ?_) (fun h225 => ?_)
          · have _q := h225
            refine jx_ld (pc' := 95) (l' := L2) (st' := [.ref 66]) rfl (jl_aloadn gL2_0) ?_
            refine jx_ar (pc' := 96) (st' := [.int (i32 (2)), .ref 66]) rfl rfl rfl rfl ?_
            refine jx_ld (pc' := 97) (l' := L2) (st' := [.int (i32 (s)), .int (i32 (2)), .ref 66]) rfl (jl_iloadn gL2_1) ?_
            refine jx_ar (pc' := 98) (st' := [.int (i32 (0)), .int (i32 (s)), .int (i32 (2)), .ref 66]) rfl rfl rfl rfl ?_
            refine jx_ar (pc' := 99) (st' := [.int (i32 (0)), .int (i32 (0)), .int (i32 (s)), .int (i32 (2)), .ref 66]) rfl rfl rfl rfl ?_
            refine jx_ar (pc' := 100) (st' := [.int (i32 (0)), .int (i32 (0)), .int (i32 (0)), .int (i32 (s)), .int (i32 (2)), .ref 66]) rfl rfl rfl rfl ?_
            refine jx_vr (pc' := 103) (as := [.int (i32 (2)), .int (i32 (s)), .int (i32 (0)), .int (i32 (0)), .int (i32 (0))]) (st := []) rfl rfl rfl rfl ⟨rfl, rfl, Nat.le_of_ble_eq_true rfl⟩ rfl rfl (c_node_o (dd := d) (hd := by omega) (hW := hW) (kind := 2) (a := s) (b := 0) (c := 0) (e := 0) (nd := nd) (e_nd := show G 31 = nd from (e_nd)) (ec := ec) (e_ec := show ecn A (G 31) = ec from e_ec)  (h_kind := ⟨(by decide), (by decide)⟩) (h_a := ⟨(Int.le_trans (by decide : (-2147483648 : Int) ≤ -2147483648) h_s.1), (Int.le_trans h_s.2 (by decide : (2147483647 : Int) ≤ 2147483647))⟩) (h_b := ⟨(by decide), (by decide)⟩) (h_c := ⟨(by decide), (by decide)⟩) (h_e := ⟨(by decide), (by decide)⟩)  (p_0 := by omega) (p_1 := by omega) (p_2 := by omega)) (fun o V' hq => ?_)
            obtain ⟨G226, A227, nd2_228, ec2_229, rfl, rfl, hW230, hF231, hQ232, e233, e234, p235, p236, p237, -⟩ := hq
            have hF239 := Fr_tr hF0 hF231 (Fr_sub (by decide)) (Fr_sub (by decide))
            have hP240 := Pf_tr hP0 hQ232 (by omega)
            have bnd2_228 : (0 : Int) ≤ nd2_228 ∧ nd2_228 ≤ 6999 := e233 ▸ hW230.1 31
            refine .inr ⟨_, rfl, ?_⟩
            refine jx_rt (v := some (.int (i32 (nd)))) rfl rfl rfl rfl rfl rfl ?_
            have z241 := tz_f (tk0)
            exact ⟨_, _, _, at0, fk, op0, nd2_228, tk0, ec2_229, rfl, rfl, hW230, hF239, hP240, by omega, ((hF231.1 10 rfl).trans (e_at0)), ((hF231.1 16 rfl).trans (e_fk)), ((hF231.1 15 rfl).trans (e_op0)), (e233), ((hF231.1 11 rfl).trans (e_tk0)), e234, by omega, by omega, by omega, by omega, by omega, by omega, by first | exact Or.inr ((⟨by omega, by omega, by omega, (wR_var p237 (by omega) (by omega) p_9 (kq (P := kRef (ch)) (show A227 7 (s).toNat = A 7 (s).toNat from (congrFun (hF231.2 7 rfl) _)) (by first | exact .inr ⟨by omega, a224⟩))), by omega⟩))⟩
          · have _q := h225
            exact absurd h225 (by omega)
        · have _q : True := trivial
          refine jx_if_ne (pc' := 75) (tg := 94) rfl rfl rfl (by decide) (by decide) (fun h242 => ?_) (fun h242 => ?_)
          · have _q := h242
            exact absurd h242 (by omega)
          · have _q := h242
            refine jx_go (tg := 86) rfl rfl ?_
            refine jx_ld (pc' := 87) (l' := L2) (st' := [.ref 66]) rfl (jl_aloadn gL2_0) ?_
            refine jx_ar (pc' := 88) (st' := [.int (i32 (4)), .ref 66]) rfl rfl rfl rfl ?_
            refine jx_ld (pc' := 89) (l' := L2) (st' := [.int (i32 (place)), .int (i32 (4)), .ref 66]) rfl (jl_iloadn gL2_2) ?_
            refine jx_vr (pc' := 92) (as := [.int (i32 (4)), .int (i32 (place))]) (st := []) rfl rfl rfl rfl ⟨rfl, rfl, Nat.le_of_ble_eq_true rfl⟩ rfl rfl (c_fail (dd := d) (hd := by omega) (hW := hW) (kind := 4) (place := place) (fk := fk) (e_fk := show G 16 = fk from (e_fk))  (h_kind := ⟨(by decide), (by decide)⟩) (h_place := ⟨(Int.le_trans (by decide : (-2147483648 : Int) ≤ -2147483648) h_place.1), (Int.le_trans h_place.2 (by decide : (2147483647 : Int) ≤ 2147483647))⟩)  (p_0 := by omega) (p_1 := by omega)) (fun o V' hq => ?_)
            obtain ⟨G243, A244, fk2_245, rfl, rfl, hW246, hF247, e248, p249, -⟩ := hq
            have hF251 := Fr_tr hF0 hF247 (Fr_sub (by decide)) (Fr_sub (by decide))
            have hP252 := Pf_f hP0 hF247 (by decide)
            have ec253 : ecn A244 (G243 31) = ec := (ecn_f (hF247.2 15 rfl) (hF247.1 31 rfl)).trans e_ec
            have bfk2_245 : (0 : Int) ≤ fk2_245 ∧ fk2_245 ≤ 6 := e248 ▸ hW246.1 16
            refine .inl ⟨rfl, ?_⟩
            refine jx_ar (pc' := 93) (st' := [.int (i32 (0))]) rfl rfl rfl rfl ?_
            refine jx_rt (v := some (.int (i32 (0)))) rfl rfl rfl rfl rfl rfl ?_
            have z254 := tz_f (tk0)
            exact ⟨_, _, _, at0, fk2_245, op0, nd, tk0, ec, rfl, rfl, hW246, hF251, hP252, by omega, ((hF247.1 10 rfl).trans (e_at0)), (e248), ((hF247.1 15 rfl).trans (e_op0)), ((hF247.1 31 rfl).trans (e_nd)), ((hF247.1 11 rfl).trans (e_tk0)), ec253, by omega, by omega, by omega, by omega, by omega, by omega, by first | exact Or.inl (⟨by omega, by omega, by omega⟩)⟩
    · have _q := h185
      exact absurd h185 (by omega)
set_option maxRecDepth 20000 in
set_option maxHeartbeats 4000000 in
theorem c_readReference_w {X : jX} {dd : Nat} {Vs : Nat → Prop} {sb : Int} {c0 c1 : jC} {G : Nat → Int} {A : Nat → Nat → Int} {T : jH} {ch : Int} {ln le at0 fk op0 nd tk0 ec : Int} (hd : 68 ≤ dd) (hW : Wk G A) (e_ln : G 9 = ln) (e_le : A 4 (ln).toNat = le) (e_at0 : G 10 = at0) (e_fk : G 16 = fk) (e_op0 : G 15 = op0) (e_nd : G 31 = nd) (e_tk0 : G 11 = tk0) (e_ec : ecn A (G 31) = ec) (i_SV : SV Vs sb G A) (h_ch : (0 : Int) ≤ ch ∧ ch ≤ 1) (p_0 : 0 ≤ op0) (p_1 : op0 ≤ 9) (p_2 : op0 ≤ 8 ∨ 1 ≤ fk) (p_3 : nd ≤ 2 * at0 - tz tk0 + 50) (p_4 : at0 ≤ le) : wk X dd 290 [.ref 66, .int (i32 ch)] (rV c0 c1 G A T) (fun o V' => ∃ (G' : Nat → Int) (A' : Nat → Nat → Int) (r : Int) (at2 : Int) (fk2 : Int) (op2 : Int) (nd2 : Int) (tk2 : Int) (ec2 : Int), V' = rV c0 c1 G' A' T ∧ o = .inl (some (.int (i32 r))) ∧ Wk G' A' ∧ Fr [10, 11, 12, 13, 14, 15, 16, 17, 18, 31] [15, 16, 17, 18, 19, 20, 21, 22, 24, 28] G A G' A' ∧ Pf nd A A' ∧ ((-2147483648 : Int) ≤ r ∧ r ≤ 2147483647) ∧ G' 10 = at2 ∧ G' 16 = fk2 ∧ G' 15 = op2 ∧ G' 31 = nd2 ∧ G' 11 = tk2 ∧ ecn A' (G' 31) = ec2 ∧ (at0 ≤ at2) ∧ (at2 ≤ le) ∧ (nd ≤ nd2) ∧ (op2 = op0) ∧ (0 ≤ r) ∧ (r ≤ nd2) ∧ (((1 ≤ fk) ∧ (1 ≤ fk2) ∧ (nd2 = nd) ∧ (at2 = at0) ∧ (tk2 = tk0) ∧ (tz tk2 = tz tk0)) ∨ ((fk = 0) ∧ (1 ≤ fk2) ∧ (nd2 - nd ≤ (2 * at2 - tz tk2) - (2 * at0 - tz tk0) + 1)) ∨ ((fk = 0) ∧ (fk2 = 0) ∧ (nd2 - nd ≤ (2 * at2 - tz tk2) - (2 * at0 - tz tk0)) ∧ (wR A' Vs sb (20) (ch) (r) (nd) (nd2)) ∧ (nd2 - nd + 5 * (ec2 - ec) ≤ (2 * at2 - tz tk2) - (2 * at0 - tz tk0) - tz tk2) ∧ (tz tk0 = 1)))) := by
  obtain ⟨d, rfl⟩ : ∃ d, dd = d + 1 := ⟨dd - 1, by omega⟩
  refine wk_of (e := jm290) rfl (Nat.le_of_ble_eq_true rfl) ?_
  show wj X d jm290 (0, [(0, .ref 66), (1, .int (i32 (ch)))], [], rV c0 c1 G A T) _
  have hF0 : Fr [10, 11, 12, 13, 14, 15, 16, 17, 18, 31] [15, 16, 17, 18, 19, 20, 21, 22, 24, 28] G A G A := Fr_rf
  have hP0 : Pf nd A A := Pf_rf
  have b_ln : (0 : Int) ≤ ln ∧ ln ≤ 3000 := e_ln ▸ hW.1 9
  have b_le : (0 : Int) ≤ le ∧ le ≤ 3000 := e_le ▸ hW.2 4 _
  have b_at0 : (0 : Int) ≤ at0 ∧ at0 ≤ 3002 := e_at0 ▸ hW.1 10
  have b_fk : (0 : Int) ≤ fk ∧ fk ≤ 6 := e_fk ▸ hW.1 16
  have b_op0 : (-2147483648 : Int) ≤ op0 ∧ op0 ≤ 2147483647 := e_op0 ▸ hW.1 15
  have b_nd : (0 : Int) ≤ nd ∧ nd ≤ 6999 := e_nd ▸ hW.1 31
  have z_tk0 := tz_f tk0
  have b_tk0 : (0 : Int) ≤ tk0 ∧ tk0 ≤ 5 := e_tk0 ▸ hW.1 11
  refine jx_ld (pc' := 1) (l' := [(0, .ref 66), (1, .int (i32 (ch)))]) (st' := [.ref 66]) rfl (jl_aloadn rfl) ?_
  refine jx_vr (pc' := 4) (as := []) (st := []) rfl rfl rfl rfl ⟨rfl, rfl, Nat.le_of_ble_eq_true rfl⟩ rfl rfl (c_bad (dd := d) (hd := by omega) (hW := hW)  (fk := fk) (e_fk := show G 16 = fk from (e_fk))    ) (fun o V' hq => ?_)
  obtain ⟨r1, rfl, rfl, b2, q3⟩ := hq
  refine .inr ⟨_, rfl, ?_⟩
  rcases q3 with ⟨rfl, a4⟩ | ⟨rfl, a5⟩
  · have _q : True := trivial
    refine jx_if_eq (pc' := 7) (tg := 9) rfl rfl rfl (by decide) (by decide) (fun h6 => ?_) (fun h6 => ?_)
    · have _q := h6
      exact absurd h6 (by omega)
    · have _q := h6
      refine jx_ar (pc' := 8) (st' := [.int (i32 (0))]) rfl rfl rfl rfl ?_
      refine jx_rt (v := some (.int (i32 (0)))) rfl rfl rfl rfl rfl rfl ?_
      have z7 := tz_f (tk0)
      exact ⟨_, _, _, at0, fk, op0, nd, tk0, ec, rfl, rfl, hW, hF0, hP0, by omega, (e_at0), (e_fk), (e_op0), (e_nd), (e_tk0), e_ec, by omega, by omega, by omega, by omega, by omega, by omega, by first | exact Or.inl (⟨by omega, by omega, by omega, by omega, by omega, by omega⟩)⟩
  · have _q : True := trivial
    refine jx_if_eq (pc' := 7) (tg := 9) rfl rfl rfl (by decide) (by decide) (fun h8 => ?_) (fun h8 => ?_)
    · have _q := h8
      refine jx_ld (pc' := 10) (l' := [(0, .ref 66), (1, .int (i32 (ch)))]) (st' := [.ref 66]) rfl (jl_aloadn rfl) ?_
      have z9 := tz_f (tk0)
      refine jr_get (pc' := 13) (i := 11) (v := .int (i32 (tk0))) rfl rfl (by decide) (rFv_eq (by decide) (show G 11 = tk0 from (e_tk0))) rfl ?_
      refine jx_ar (pc' := 14) (st' := [.int (i32 (1)), .int (i32 (tk0))]) rfl rfl rfl rfl ?_
      refine jx_icmp_eq (pc' := 17) (tg := 28) rfl rfl rfl (Int.le_trans (by decide : (-2147483648 : Int) ≤ 0) b_tk0.1) (Int.le_trans b_tk0.2 (by decide : (5 : Int) ≤ 2147483647)) (by decide) (by decide) (fun h10 => ?_) (fun h10 => ?_)
      · have _q := h10
        refine jx_ld (pc' := 29) (l' := [(0, .ref 66), (1, .int (i32 (ch)))]) (st' := [.ref 66]) rfl (jl_aloadn rfl) ?_
        have b11 : (-3000 : Int) ≤ G 12 ∧ G 12 ≤ 3002 := hW.1 12
        refine jr_get (pc' := 32) (i := 12) (v := .int (i32 (G 12))) rfl rfl (by decide) rfl rfl ?_
        refine jx_ld (pc' := 33) (l' := jSto1 [(0, .ref 66), (1, .int (i32 (ch)))] 2 (.int (i32 (G 12)))) (st' := []) rfl rfl ?_
        obtain ⟨L12, eL12⟩ : ∃ q, q = jSto1 [(0, .ref 66), (1, .int (i32 (ch)))] 2 (.int (i32 (G 12))) := ⟨_, rfl⟩
        rw [← eL12]
        have gL12_0 : jGet L12 0 = some (.ref 66) := eL12 ▸ jg_ne (by decide) (rfl : jGet [(0, .ref 66), (1, .int (i32 (ch)))] 0 = some (.ref 66)) rfl
        have gL12_1 : jGet L12 1 = some (.int (i32 (ch))) := eL12 ▸ jg_ne (by decide) (rfl : jGet [(0, .ref 66), (1, .int (i32 (ch)))] 1 = some (.int (i32 (ch)))) rfl
        have gL12_2 : jGet L12 2 = some (.int (i32 (G 12))) := eL12 ▸ jg_eq
        refine jx_ld (pc' := 34) (l' := L12) (st' := [.ref 66]) rfl (jl_aloadn gL12_0) ?_
        refine jx_vr (pc' := 37) (as := []) (st := []) rfl rfl rfl rfl ⟨rfl, rfl, Nat.le_of_ble_eq_true rfl⟩ rfl rfl (c_lookUp (dd := d) (hd := by omega) (hW := hW)  (fk := fk) (e_fk := show G 16 = fk from (e_fk)) (i_SV := (SV_ext (rfl) (rfl) i_SV))   ) (fun o V' hq => ?_)
        obtain ⟨G13, A14, r15, fk2_16, rfl, rfl, hW17, hF18, b19, e20, q21⟩ := hq
        have hF22 := Fr_tr hF0 hF18 (Fr_sub (by decide)) (Fr_sub (by decide))
        have hP23 := Pf_f hP0 hF18 (by decide)
        have ec24 : ecn A14 (G13 31) = ec := (ecn_f (hF18.2 15 rfl) (hF18.1 31 rfl)).trans e_ec
        have bfk2_16 : (0 : Int) ≤ fk2_16 ∧ fk2_16 ≤ 6 := e20 ▸ hW17.1 16
        refine .inr ⟨_, rfl, ?_⟩
        rcases q21 with ⟨a25, a26⟩ | ⟨a27, a28, a29, a30⟩
        · have _q : True := trivial
          refine jx_ld (pc' := 38) (l' := jSto1 L12 3 (.int (i32 (r15)))) (st' := []) rfl rfl ?_
          obtain ⟨L31, eL31⟩ : ∃ q, q = jSto1 L12 3 (.int (i32 (r15))) := ⟨_, rfl⟩
          rw [← eL31]
          have gL31_0 : jGet L31 0 = some (.ref 66) := eL31 ▸ jg_ne (by decide) gL12_0 rfl
          have gL31_1 : jGet L31 1 = some (.int (i32 (ch))) := eL31 ▸ jg_ne (by decide) gL12_1 rfl
          have gL31_2 : jGet L31 2 = some (.int (i32 (G 12))) := eL31 ▸ jg_ne (by decide) gL12_2 rfl
          have gL31_3 : jGet L31 3 = some (.int (i32 (r15))) := eL31 ▸ jg_eq
          refine jx_ld (pc' := 39) (l' := L31) (st' := [.ref 66]) rfl (jl_aloadn gL31_0) ?_
          refine jx_vr (pc' := 42) (as := []) (st := []) rfl rfl rfl rfl ⟨rfl, rfl, Nat.le_of_ble_eq_true rfl⟩ rfl rfl (c_bad (dd := d) (hd := by omega) (hW := hW17)  (fk := fk2_16) (e_fk := show G13 16 = fk2_16 from (e20))    ) (fun o V' hq => ?_)
          obtain ⟨r32, rfl, rfl, b33, q34⟩ := hq
          refine .inr ⟨_, rfl, ?_⟩
          rcases q34 with ⟨rfl, a35⟩ | ⟨rfl, a36⟩
          · have _q : True := trivial
            refine jx_if_eq (pc' := 45) (tg := 47) rfl rfl rfl (by decide) (by decide) (fun h37 => ?_) (fun h37 => ?_)
            · have _q := h37
              exact absurd h37 (by omega)
            · have _q := h37
              refine jx_ar (pc' := 46) (st' := [.int (i32 (0))]) rfl rfl rfl rfl ?_
              refine jx_rt (v := some (.int (i32 (0)))) rfl rfl rfl rfl rfl rfl ?_
              have z38 := tz_f (tk0)
              exact ⟨_, _, _, at0, fk2_16, op0, nd, tk0, ec, rfl, rfl, hW17, hF22, hP23, by omega, ((hF18.1 10 rfl).trans (e_at0)), (e20), ((hF18.1 15 rfl).trans (e_op0)), ((hF18.1 31 rfl).trans (e_nd)), ((hF18.1 11 rfl).trans (e_tk0)), ec24, by omega, by omega, by omega, by omega, by omega, by omega, by first | exact Or.inr (Or.inl (⟨by omega, by omega, by omega⟩))⟩
          · have _q : True := trivial
            exfalso
            omega
        · have _q : True := trivial
          refine jx_ld (pc' := 38) (l' := jSto1 L12 3 (.int (i32 (r15)))) (st' := []) rfl rfl ?_
          obtain ⟨L39, eL39⟩ : ∃ q, q = jSto1 L12 3 (.int (i32 (r15))) := ⟨_, rfl⟩
          rw [← eL39]
          have gL39_0 : jGet L39 0 = some (.ref 66) := eL39 ▸ jg_ne (by decide) gL12_0 rfl
          have gL39_1 : jGet L39 1 = some (.int (i32 (ch))) := eL39 ▸ jg_ne (by decide) gL12_1 rfl
          have gL39_2 : jGet L39 2 = some (.int (i32 (G 12))) := eL39 ▸ jg_ne (by decide) gL12_2 rfl
          have gL39_3 : jGet L39 3 = some (.int (i32 (r15))) := eL39 ▸ jg_eq
          refine jx_ld (pc' := 39) (l' := L39) (st' := [.ref 66]) rfl (jl_aloadn gL39_0) ?_
          refine jx_vr (pc' := 42) (as := []) (st := []) rfl rfl rfl rfl ⟨rfl, rfl, Nat.le_of_ble_eq_true rfl⟩ rfl rfl (c_bad (dd := d) (hd := by omega) (hW := hW17)  (fk := fk2_16) (e_fk := show G13 16 = fk2_16 from (e20))    ) (fun o V' hq => ?_)
          obtain ⟨r40, rfl, rfl, b41, q42⟩ := hq
          refine .inr ⟨_, rfl, ?_⟩
          rcases q42 with ⟨rfl, a43⟩ | ⟨rfl, a44⟩
          · have _q : True := trivial
            exfalso
            omega
          · have _q : True := trivial
            refine jx_if_eq (pc' := 45) (tg := 47) rfl rfl rfl (by decide) (by decide) (fun h45 => ?_) (fun h45 => ?_)
            · have _q := h45
              refine jx_ld (pc' := 48) (l' := L39) (st' := [.ref 66]) rfl (jl_aloadn gL39_0) ?_
              refine jx_vr (pc' := 51) (as := []) (st := []) rfl rfl rfl rfl ⟨rfl, rfl, Nat.le_of_ble_eq_true rfl⟩ rfl rfl (c_next (dd := d) (hd := by omega) (hW := hW17)  (ln := ln) (e_ln := show G13 9 = ln from ((hF18.1 9 rfl).trans (e_ln))) (le := le) (e_le := show A14 4 (ln).toNat = le from (congrFun (hF18.2 4 rfl) _).trans (e_le)) (at0 := at0) (e_at0 := show G13 10 = at0 from ((hF18.1 10 rfl).trans (e_at0)))    (p_0 := by omega)) (fun o V' hq => ?_)
              obtain ⟨G46, A47, at2_48, tk2_49, rfl, rfl, hW50, hF51, e52, e53, p54, p55, p56, -⟩ := hq
              have hF58 := Fr_tr hF22 hF51 (Fr_sub (by decide)) (Fr_sub (by decide))
              have hP59 := Pf_f hP23 hF51 (by decide)
              have ec60 : ecn A47 (G46 31) = ec := (ecn_f (hF51.2 15 rfl) (hF51.1 31 rfl)).trans ec24
              have bat2_48 : (0 : Int) ≤ at2_48 ∧ at2_48 ≤ 3002 := e52 ▸ hW50.1 10
              have ztk2_49 := tz_b tk2_49
              have btk2_49 : (0 : Int) ≤ tk2_49 ∧ tk2_49 ≤ 5 := e53 ▸ hW50.1 11
              refine .inl ⟨rfl, ?_⟩
              have pz61 : at0 + tz tk2_49 ≤ at2_48 := by omega
              refine jx_ld (pc' := 52) (l' := L39) (st' := [.ref 66]) rfl (jl_aloadn gL39_0) ?_
              refine jx_ld (pc' := 53) (l' := L39) (st' := [.int (i32 (r15)), .ref 66]) rfl (jl_iloadn gL39_3) ?_
              refine jx_ld (pc' := 54) (l' := L39) (st' := [.int (i32 (G 12)), .int (i32 (r15)), .ref 66]) rfl (jl_iloadn gL39_2) ?_
              refine jx_ld (pc' := 55) (l' := L39) (st' := [.int (i32 (ch)), .int (i32 (G 12)), .int (i32 (r15)), .ref 66]) rfl (jl_iloadn gL39_1) ?_
              refine jx_vr (pc' := 58) (as := [.int (i32 (r15)), .int (i32 (G 12)), .int (i32 (ch))]) (st := []) rfl rfl rfl rfl ⟨rfl, rfl, Nat.le_of_ble_eq_true rfl⟩ rfl rfl (c_readBehind_w (dd := d) (hd := by omega) (hW := hW50) (s := r15) (place := G 12) (ch := ch) (ln := ln) (e_ln := show G46 9 = ln from ((hF51.1 9 rfl).trans ((hF18.1 9 rfl).trans (e_ln)))) (le := le) (e_le := show A47 4 (ln).toNat = le from (congrFun ((hF51.2 4 rfl).trans (hF18.2 4 rfl)) _).trans (e_le)) (at0 := at2_48) (e_at0 := show G46 10 = at2_48 from (e52)) (fk := fk2_16) (e_fk := show G46 16 = fk2_16 from ((hF51.1 16 rfl).trans (e20))) (op0 := op0) (e_op0 := show G46 15 = op0 from ((hF51.1 15 rfl).trans ((hF18.1 15 rfl).trans (e_op0)))) (nd := nd) (e_nd := show G46 31 = nd from ((hF51.1 31 rfl).trans ((hF18.1 31 rfl).trans (e_nd)))) (tk0 := tk2_49) (e_tk0 := show G46 11 = tk2_49 from (e53)) (ec := ec) (e_ec := show ecn A47 (G46 31) = ec from ec60) (i_SV := (SV_ext (((hF51.1 29 rfl).trans (hF18.1 29 rfl))) (((hF51.2 14 rfl).trans (hF18.2 14 rfl))) i_SV)) (h_s := ⟨(Int.le_trans (by decide : (-2147483648 : Int) ≤ -2147483648) b19.1), (Int.le_trans b19.2 (by decide : (2147483647 : Int) ≤ 2147483647))⟩) (h_place := ⟨(Int.le_trans (by decide : (-2147483648 : Int) ≤ -3000) b11.1), (Int.le_trans b11.2 (by decide : (3002 : Int) ≤ 2147483647))⟩) (h_ch := ⟨(Int.le_trans (by decide : (0 : Int) ≤ 0) h_ch.1), (Int.le_trans h_ch.2 (by decide : (1 : Int) ≤ 1))⟩)  (p_0 := by omega) (p_1 := by omega) (p_2 := by omega) (p_3 := by omega) (p_4 := by omega) (p_5 := by omega) (p_6 := by omega) (p_7 := by omega) (p_8 := by omega) (p_9 := a30)) (fun o V' hq => ?_)
              obtain ⟨G62, A63, r64, at2_65, fk2_66, op2_67, nd2_68, tk2_69, ec2_70, rfl, rfl, hW71, hF72, hQ73, b74, e75, e76, e77, e78, e79, e80, p81, p82, p83, p84, p85, p86, q87⟩ := hq
              have hF88 := Fr_tr hF58 hF72 (Fr_sub (by decide)) (Fr_sub (by decide))
              have hP89 := Pf_tr hP59 hQ73 (by omega)
              have bat2_65 : (0 : Int) ≤ at2_65 ∧ at2_65 ≤ 3002 := e75 ▸ hW71.1 10
              have bfk2_66 : (0 : Int) ≤ fk2_66 ∧ fk2_66 ≤ 6 := e76 ▸ hW71.1 16
              have bop2_67 : (-2147483648 : Int) ≤ op2_67 ∧ op2_67 ≤ 2147483647 := e77 ▸ hW71.1 15
              have bnd2_68 : (0 : Int) ≤ nd2_68 ∧ nd2_68 ≤ 6999 := e78 ▸ hW71.1 31
              have ztk2_69 := tz_b tk2_69
              have btk2_69 : (0 : Int) ≤ tk2_69 ∧ tk2_69 ≤ 5 := e79 ▸ hW71.1 11
              refine .inr ⟨_, rfl, ?_⟩
              rcases q87 with ⟨a90, a91, a92⟩ | ⟨a93, a94, a95, a96, a97⟩
              · have _q : True := trivial
                refine jx_rt (v := some (.int (i32 (r64)))) rfl rfl rfl rfl rfl rfl ?_
                have z98 := tz_f (tk2_69)
                exact ⟨_, _, _, at2_65, fk2_66, op2_67, nd2_68, tk2_69, ec2_70, rfl, rfl, hW71, hF88, hP89, by omega, (e75), (e76), (e77), (e78), (e79), e80, by omega, by omega, by omega, by omega, by omega, by omega, by first | exact Or.inr (Or.inl (⟨by omega, by omega, by omega⟩))⟩
              · have _q : True := trivial
                refine jx_rt (v := some (.int (i32 (r64)))) rfl rfl rfl rfl rfl rfl ?_
                have z99 := tz_f (tk2_69)
                exact ⟨_, _, _, at2_65, fk2_66, op2_67, nd2_68, tk2_69, ec2_70, rfl, rfl, hW71, hF88, hP89, by omega, (e75), (e76), (e77), (e78), (e79), e80, by omega, by omega, by omega, by omega, by omega, by omega, by first | exact Or.inr (Or.inr ((⟨by omega, by omega, by omega, a96, by omega, by omega⟩)))⟩
            · have _q := h45
              exact absurd h45 (by omega)
      · have _q := h10
        refine jx_ld (pc' := 18) (l' := [(0, .ref 66), (1, .int (i32 (ch)))]) (st' := [.ref 66]) rfl (jl_aloadn rfl) ?_
        refine jx_ar (pc' := 19) (st' := [.int (i32 (1)), .ref 66]) rfl rfl rfl rfl ?_
        refine jx_ld (pc' := 20) (l' := [(0, .ref 66), (1, .int (i32 (ch)))]) (st' := [.ref 66, .int (i32 (1)), .ref 66]) rfl (jl_aloadn rfl) ?_
        have b100 : (-3000 : Int) ≤ G 12 ∧ G 12 ≤ 3002 := hW.1 12
        refine jr_get (pc' := 23) (i := 12) (v := .int (i32 (G 12))) rfl rfl (by decide) rfl rfl ?_
        refine jx_vr (pc' := 26) (as := [.int (i32 (1)), .int (i32 (G 12))]) (st := []) rfl rfl rfl rfl ⟨rfl, rfl, Nat.le_of_ble_eq_true rfl⟩ rfl rfl (c_fail (dd := d) (hd := by omega) (hW := hW) (kind := 1) (place := G 12) (fk := fk) (e_fk := show G 16 = fk from (e_fk))  (h_kind := ⟨(by decide), (by decide)⟩) (h_place := ⟨(Int.le_trans (by decide : (-2147483648 : Int) ≤ -3000) b100.1), (Int.le_trans b100.2 (by decide : (3002 : Int) ≤ 2147483647))⟩)  (p_0 := by omega) (p_1 := by omega)) (fun o V' hq => ?_)
        obtain ⟨G101, A102, fk2_103, rfl, rfl, hW104, hF105, e106, p107, -⟩ := hq
        have hF109 := Fr_tr hF0 hF105 (Fr_sub (by decide)) (Fr_sub (by decide))
        have hP110 := Pf_f hP0 hF105 (by decide)
        have ec111 : ecn A102 (G101 31) = ec := (ecn_f (hF105.2 15 rfl) (hF105.1 31 rfl)).trans e_ec
        have bfk2_103 : (0 : Int) ≤ fk2_103 ∧ fk2_103 ≤ 6 := e106 ▸ hW104.1 16
        refine .inl ⟨rfl, ?_⟩
        refine jx_ar (pc' := 27) (st' := [.int (i32 (0))]) rfl rfl rfl rfl ?_
        refine jx_rt (v := some (.int (i32 (0)))) rfl rfl rfl rfl rfl rfl ?_
        have z112 := tz_f (tk0)
        exact ⟨_, _, _, at0, fk2_103, op0, nd, tk0, ec, rfl, rfl, hW104, hF109, hP110, by omega, ((hF105.1 10 rfl).trans (e_at0)), (e106), ((hF105.1 15 rfl).trans (e_op0)), ((hF105.1 31 rfl).trans (e_nd)), ((hF105.1 11 rfl).trans (e_tk0)), ec111, by omega, by omega, by omega, by omega, by omega, by omega, by first | exact Or.inr (Or.inl (⟨by omega, by omega, by omega⟩))⟩
    · have _q := h8
      exact absurd h8 (by omega)
