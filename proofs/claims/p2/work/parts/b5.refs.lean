set_option maxRecDepth 20000 in
set_option maxHeartbeats 4000000 in
theorem c_readBehind_w {X : jX} {dd : Nat} {Vs : Nat → Prop} {sb : Int} {c0 c1 : jC} {G : Nat → Int} {A : Nat → Nat → Int} {T : jH} {s place ch : Int} {ln le at0 fk op0 nd tk0 ec sy : Int} (hd : 67 ≤ dd) (hW : Wk G A) (e_ln : G 9 = ln) (e_le : A 4 (ln).toNat = le) (e_at0 : G 10 = at0) (e_fk : G 16 = fk) (e_op0 : G 15 = op0) (e_nd : G 31 = nd) (e_tk0 : G 11 = tk0) (e_ec : ecn A (G 31) = ec) (e_sy : G 19 = sy) (i_SV : SV Vs sb G A) (h_s : (-2147483648 : Int) ≤ s ∧ s ≤ 2147483647) (h_place : (-2147483648 : Int) ≤ place ∧ place ≤ 2147483647) (h_ch : (0 : Int) ≤ ch ∧ ch ≤ 1) (p_0 : 0 ≤ op0) (p_1 : op0 ≤ 9) (p_2 : op0 ≤ 8 ∨ 1 ≤ fk) (p_3 : nd ≤ 2 * at0 - tz tk0 + 50) (p_4 : at0 ≤ le) (p_5 : op0 ≤ 8) (p_6 : fk = 0) (p_7 : 0 ≤ s ∧ s ≤ 201) (p_8 : -3000 ≤ place ∧ place ≤ 3002) (p_9 : SY Vs sb (s)) : wk X dd 291 [.ref 66, .int (i32 s), .int (i32 place), .int (i32 ch)] (rV c0 c1 G A T) (fun o V' => ∃ (G' : Nat → Int) (A' : Nat → Nat → Int) (r : Int) (at2 : Int) (fk2 : Int) (op2 : Int) (nd2 : Int) (tk2 : Int) (ec2 : Int), V' = rV c0 c1 G' A' T ∧ o = .inl (some (.int (i32 r))) ∧ Wk G' A' ∧ Fr [10, 11, 12, 13, 14, 15, 16, 17, 18, 31] [15, 16, 17, 18, 19, 20, 21, 22, 24, 28] G A G' A' ∧ Pf nd A A' ∧ ((-2147483648 : Int) ≤ r ∧ r ≤ 2147483647) ∧ G' 10 = at2 ∧ G' 16 = fk2 ∧ G' 15 = op2 ∧ G' 31 = nd2 ∧ G' 11 = tk2 ∧ ecn A' (G' 31) = ec2 ∧ (at0 ≤ at2) ∧ (at2 ≤ le) ∧ (nd ≤ nd2) ∧ (op2 = op0) ∧ (0 ≤ r) ∧ (r ≤ nd2) ∧ (((fk = 0) ∧ (1 ≤ fk2) ∧ (nd2 - nd ≤ (2 * at2 - tz tk2) - (2 * at0 - tz tk0) + 2)) ∨ ((fk = 0) ∧ (fk2 = 0) ∧ (nd2 - nd ≤ (2 * at2 - tz tk2) - (2 * at0 - tz tk0) + 1) ∧ (wR A' Vs sb (20) (ch) (r) (nd) (nd2)) ∧ (nd2 - nd + 5 * (ec2 - ec) ≤ (2 * at2 - tz tk2) - (2 * at0 - tz tk0) + 1 + tz tk0 - tz tk2) ∧ (NdM A' (nd) (nd2) (sy))))) := by
  obtain ⟨d, rfl⟩ : ∃ d, dd = d + 1 := ⟨dd - 1, by omega⟩
  refine wk_of (e := jm291) rfl (Nat.le_of_ble_eq_true rfl) ?_
  show wj X d jm291 (0, [(0, .ref 66), (1, .int (i32 (s))), (2, .int (i32 (place))), (3, .int (i32 (ch)))], [], rV c0 c1 G A T) _
  have hF0 : Fr [10, 11, 12, 13, 14, 15, 16, 17, 18, 31] [15, 16, 17, 18, 19, 20, 21, 22, 24, 28] G A G A := Fr_rf
  have hP0 : Pf nd A A := Pf_rf
  have b_ln : (0 : Int) ≤ ln ∧ ln ≤ 3000 := e_ln ▸ hW.1 9
  have b_le : (0 : Int) ≤ le ∧ le ≤ 3000 := e_le ▸ hW.2 4 _
  have b_at0 : (0 : Int) ≤ at0 ∧ at0 ≤ 3002 := e_at0 ▸ hW.1 10
  have b_fk : (0 : Int) ≤ fk ∧ fk ≤ 6 := e_fk ▸ hW.1 16
  have b_op0 : (-2147483648 : Int) ≤ op0 ∧ op0 ≤ 2147483647 := e_op0 ▸ hW.1 15
  have b_nd : (0 : Int) ≤ nd ∧ nd ≤ 6999 := e_nd ▸ hW.1 31
  have z_tk0 := tz_f tk0
  have b_tk0 : (0 : Int) ≤ tk0 ∧ tk0 ≤ 5 := e_tk0 ▸ hW.1 11
  have b_sy : (0 : Int) ≤ sy ∧ sy ≤ 202 := e_sy ▸ hW.1 19
  refine jx_ld (pc' := 1) (l' := [(0, .ref 66), (1, .int (i32 (s))), (2, .int (i32 (place))), (3, .int (i32 (ch)))]) (st' := [.ref 66]) rfl (jl_aloadn rfl) ?_
  refine jr_get (pc' := 4) (i := 21) (v := .ref 74) rfl rfl (by decide) rfl rfl ?_
  refine jx_ld (pc' := 5) (l' := [(0, .ref 66), (1, .int (i32 (s))), (2, .int (i32 (place))), (3, .int (i32 (ch)))]) (st' := [.int (i32 (s)), .ref 74]) rfl (jl_iloadn rfl) ?_
  have b1 : (0 : Int) ≤ A 7 (s).toNat ∧ A 7 (s).toNat ≤ 14 := hW.2 7 _
  refine jr_ldv (pc' := 6) (i := 7) (m := 260) (z := s) (y := A 7 (s).toNat) rfl (by decide) rfl (by decide) (by omega) (by omega) rfl (show A 7 (s).toNat = A 7 (s).toNat from rfl) ?_
  refine jx_ld (pc' := 8) (l' := jSto1 [(0, .ref 66), (1, .int (i32 (s))), (2, .int (i32 (place))), (3, .int (i32 (ch)))] 4 (.int (i32 (A 7 (s).toNat)))) (st' := []) rfl rfl ?_
  obtain ⟨L2, eL2⟩ : ∃ q, q = jSto1 [(0, .ref 66), (1, .int (i32 (s))), (2, .int (i32 (place))), (3, .int (i32 (ch)))] 4 (.int (i32 (A 7 (s).toNat))) := ⟨_, rfl⟩
  rw [← eL2]
  have gL2_0 : jGet L2 0 = some (.ref 66) := eL2 ▸ jg_ne (by decide) (rfl : jGet [(0, .ref 66), (1, .int (i32 (s))), (2, .int (i32 (place))), (3, .int (i32 (ch)))] 0 = some (.ref 66)) rfl
  have gL2_1 : jGet L2 1 = some (.int (i32 (s))) := eL2 ▸ jg_ne (by decide) (rfl : jGet [(0, .ref 66), (1, .int (i32 (s))), (2, .int (i32 (place))), (3, .int (i32 (ch)))] 1 = some (.int (i32 (s)))) rfl
  have gL2_2 : jGet L2 2 = some (.int (i32 (place))) := eL2 ▸ jg_ne (by decide) (rfl : jGet [(0, .ref 66), (1, .int (i32 (s))), (2, .int (i32 (place))), (3, .int (i32 (ch)))] 2 = some (.int (i32 (place)))) rfl
  have gL2_3 : jGet L2 3 = some (.int (i32 (ch))) := eL2 ▸ jg_ne (by decide) (rfl : jGet [(0, .ref 66), (1, .int (i32 (s))), (2, .int (i32 (place))), (3, .int (i32 (ch)))] 3 = some (.int (i32 (ch)))) rfl
  have gL2_4 : jGet L2 4 = some (.int (i32 (A 7 (s).toNat))) := eL2 ▸ jg_eq
  refine jx_ld (pc' := 9) (l' := L2) (st' := [.ref 66]) rfl (jl_aloadn gL2_0) ?_
  refine jx_ar (pc' := 11) (st' := [.int (i32 (91)), .ref 66]) rfl rfl rfl rfl ?_
  have b3 : (-2147483648 : Int) ≤ G 13 ∧ G 13 ≤ 2147483647 := hW.1 13
  refine jx_vr (pc' := 14) (as := [.int (i32 (91))]) (st := []) rfl rfl rfl rfl ⟨rfl, rfl, Nat.le_of_ble_eq_true rfl⟩ rfl rfl (c_is (dd := d) (hd := by omega) (hW := hW) (k := 91) (tk := tk0) (e_tk := show G 11 = tk0 from (e_tk0)) (tn := G 13) (e_tn := show G 13 = G 13 from rfl)  (h_k := ⟨(by decide), (by decide)⟩)  ) (fun o V' hq => ?_)
  obtain ⟨r4, rfl, rfl, b5, q6⟩ := hq
  refine .inr ⟨_, rfl, ?_⟩
  rcases q6 with ⟨rfl, a7, a8, a9⟩ | rfl
  · have _q : True := trivial
    refine jx_if_eq (pc' := 17) (tg := 63) rfl rfl rfl (by decide) (by decide) (fun h10 => ?_) (fun h10 => ?_)
    · have _q := h10
      exact absurd h10 (by omega)
    · have _q := h10
      refine jx_ld (pc' := 18) (l' := L2) (st' := [.int (i32 (ch))]) rfl (jl_iloadn gL2_3) ?_
      refine jx_if_eq (pc' := 21) (tg := 30) rfl rfl rfl (Int.le_trans (by decide : (-2147483648 : Int) ≤ 0) h_ch.1) (Int.le_trans h_ch.2 (by decide : (1 : Int) ≤ 2147483647)) (fun h11 => ?_) (fun h11 => ?_)
      · have _q := h11
        refine jx_ld (pc' := 32) (l' := L2) (st' := [.int (i32 (A 7 (s).toNat))]) rfl (jl_iload gL2_4) ?_
        refine jx_st (pc' := 35) (as := [.int (i32 (A 7 (s).toNat))]) (st := []) rfl rfl ⟨rfl, Nat.le_of_ble_eq_true rfl⟩ rfl rfl rfl (c_isArray (dd := d) (hd := by omega) (k := A 7 (s).toNat)   (h_k := ⟨(Int.le_trans (by decide : (-2147483648 : Int) ≤ 0) b1.1), (Int.le_trans b1.2 (by decide : (14 : Int) ≤ 2147483647))⟩)  ) (fun o V' hq => ?_)
        obtain ⟨r12, rfl, rfl, b13, q14⟩ := hq
        refine .inr ⟨_, rfl, ?_⟩
        rcases q14 with ⟨rfl, a15⟩ | rfl
        · have _q : True := trivial
          refine jx_if_ne (pc' := 38) (tg := 46) rfl rfl rfl (by decide) (by decide) (fun h16 => ?_) (fun h16 => ?_)
          · have _q := h16
            refine jx_ld (pc' := 47) (l' := L2) (st' := [.ref 66]) rfl (jl_aloadn gL2_0) ?_
            refine jx_vr (pc' := 50) (as := []) (st := []) rfl rfl rfl rfl ⟨rfl, rfl, Nat.le_of_ble_eq_true rfl⟩ rfl rfl (c_readIndex_w (dd := d) (k := 9) (hE := REw_all X 9) (hd := by omega) (hW := hW)  (ln := ln) (e_ln := show G 9 = ln from (e_ln)) (le := le) (e_le := show A 4 (ln).toNat = le from (e_le)) (at0 := at0) (e_at0 := show G 10 = at0 from (e_at0)) (fk := fk) (e_fk := show G 16 = fk from (e_fk)) (op0 := op0) (e_op0 := show G 15 = op0 from (e_op0)) (nd := nd) (e_nd := show G 31 = nd from (e_nd)) (tk0 := tk0) (e_tk0 := show G 11 = tk0 from (e_tk0)) (ec := ec) (e_ec := show ecn A (G 31) = ec from e_ec) (sy := sy) (e_sy := show G 19 = sy from (e_sy)) (i_SV := (SV_ext (rfl) (rfl) i_SV))   (p_0 := by omega) (p_1 := by omega) (p_2 := by omega) (p_3 := by omega) (p_4 := by omega) (p_5 := by omega) (p_6 := by omega) (p_7 := by omega) (p_8 := by omega)) (fun o V' hq => ?_)
            obtain ⟨G17, A18, r19, at2_20, fk2_21, op2_22, nd2_23, tk2_24, ec2_25, rfl, rfl, hW26, hF27, hQ28, b29, e30, e31, e32, e33, e34, e35, p36, p37, p38, p39, p40, p41, q42⟩ := hq
            have hF43 := Fr_tr hF0 hF27 (Fr_sub (by decide)) (Fr_sub (by decide))
            have hP44 := Pf_tr hP0 hQ28 (by omega)
            have bat2_20 : (0 : Int) ≤ at2_20 ∧ at2_20 ≤ 3002 := e30 ▸ hW26.1 10
            have bfk2_21 : (0 : Int) ≤ fk2_21 ∧ fk2_21 ≤ 6 := e31 ▸ hW26.1 16
            have bop2_22 : (-2147483648 : Int) ≤ op2_22 ∧ op2_22 ≤ 2147483647 := e32 ▸ hW26.1 15
            have bnd2_23 : (0 : Int) ≤ nd2_23 ∧ nd2_23 ≤ 6999 := e33 ▸ hW26.1 31
            have ztk2_24 := tz_b tk2_24
            have btk2_24 : (0 : Int) ≤ tk2_24 ∧ tk2_24 ≤ 5 := e34 ▸ hW26.1 11
            refine .inr ⟨_, rfl, ?_⟩
            rcases q42 with ⟨a45, a46, a47⟩ | ⟨a48, a49, a50, a51, a52, a53⟩
            · have _q : True := trivial
              refine jx_ld (pc' := 52) (l' := jSto1 L2 5 (.int (i32 (r19)))) (st' := []) rfl rfl ?_
              obtain ⟨L54, eL54⟩ : ∃ q, q = jSto1 L2 5 (.int (i32 (r19))) := ⟨_, rfl⟩
              rw [← eL54]
              have gL54_0 : jGet L54 0 = some (.ref 66) := eL54 ▸ jg_ne (by decide) gL2_0 rfl
              have gL54_1 : jGet L54 1 = some (.int (i32 (s))) := eL54 ▸ jg_ne (by decide) gL2_1 rfl
              have gL54_2 : jGet L54 2 = some (.int (i32 (place))) := eL54 ▸ jg_ne (by decide) gL2_2 rfl
              have gL54_3 : jGet L54 3 = some (.int (i32 (ch))) := eL54 ▸ jg_ne (by decide) gL2_3 rfl
              have gL54_4 : jGet L54 4 = some (.int (i32 (A 7 (s).toNat))) := eL54 ▸ jg_ne (by decide) gL2_4 rfl
              have gL54_5 : jGet L54 5 = some (.int (i32 (r19))) := eL54 ▸ jg_eq
              refine jx_ld (pc' := 53) (l' := L54) (st' := [.ref 66]) rfl (jl_aloadn gL54_0) ?_
              refine jx_ar (pc' := 54) (st' := [.int (i32 (3)), .ref 66]) rfl rfl rfl rfl ?_
              refine jx_ld (pc' := 55) (l' := L54) (st' := [.int (i32 (s)), .int (i32 (3)), .ref 66]) rfl (jl_iloadn gL54_1) ?_
              refine jx_ld (pc' := 57) (l' := L54) (st' := [.int (i32 (r19)), .int (i32 (s)), .int (i32 (3)), .ref 66]) rfl (jl_iload gL54_5) ?_
              refine jx_ar (pc' := 58) (st' := [.int (i32 (0)), .int (i32 (r19)), .int (i32 (s)), .int (i32 (3)), .ref 66]) rfl rfl rfl rfl ?_
              refine jx_ar (pc' := 59) (st' := [.int (i32 (0)), .int (i32 (0)), .int (i32 (r19)), .int (i32 (s)), .int (i32 (3)), .ref 66]) rfl rfl rfl rfl ?_
              refine jx_vr (pc' := 62) (as := [.int (i32 (3)), .int (i32 (s)), .int (i32 (r19)), .int (i32 (0)), .int (i32 (0))]) (st := []) rfl rfl rfl rfl ⟨rfl, rfl, Nat.le_of_ble_eq_true rfl⟩ rfl rfl (c_node_e (dd := d) (hd := by omega) (hW := hW26) (kind := 3) (a := s) (b := r19) (c := 0) (e := 0) (nd := nd2_23) (e_nd := show G17 31 = nd2_23 from (e33)) (ec := ec2_25) (e_ec := show ecn A18 (G17 31) = ec2_25 from e35) (sy := sy) (e_sy := show G17 19 = sy from ((hF27.1 19 rfl).trans (e_sy)))  (h_kind := ⟨(by decide), (by decide)⟩) (h_a := ⟨(Int.le_trans (by decide : (-2147483648 : Int) ≤ -2147483648) h_s.1), (Int.le_trans h_s.2 (by decide : (2147483647 : Int) ≤ 2147483647))⟩) (h_b := ⟨(Int.le_trans (by decide : (-2147483648 : Int) ≤ -2147483648) b29.1), (Int.le_trans b29.2 (by decide : (2147483647 : Int) ≤ 2147483647))⟩) (h_c := ⟨(by decide), (by decide)⟩) (h_e := ⟨(by decide), (by decide)⟩)  (p_0 := by omega) (p_1 := by omega) (p_2 := by omega)) (fun o V' hq => ?_)
              obtain ⟨G55, A56, nd2_57, ec2_58, rfl, rfl, hW59, hF60, hQ61, e62, e63, p64, p65, p66, p67, -⟩ := hq
              have hF69 := Fr_tr hF43 hF60 (Fr_sub (by decide)) (Fr_sub (by decide))
              have hP70 := Pf_tr hP44 hQ61 (by omega)
              have bnd2_57 : (0 : Int) ≤ nd2_57 ∧ nd2_57 ≤ 6999 := e62 ▸ hW59.1 31
              refine .inr ⟨_, rfl, ?_⟩
              refine jx_rt (v := some (.int (i32 (nd2_23)))) rfl rfl rfl rfl rfl rfl ?_
              have z71 := tz_f (tk2_24)
              exact ⟨_, _, _, at2_20, fk2_21, op2_22, nd2_57, tk2_24, ec2_58, rfl, rfl, hW59, hF69, hP70, by omega, ((hF60.1 10 rfl).trans (e30)), ((hF60.1 16 rfl).trans (e31)), ((hF60.1 15 rfl).trans (e32)), (e62), ((hF60.1 11 rfl).trans (e34)), e63, by omega, by omega, by omega, by omega, by omega, by omega, by first | exact Or.inl (⟨by omega, by omega, by omega⟩)⟩
            · have _q : True := trivial
              refine jx_ld (pc' := 52) (l' := jSto1 L2 5 (.int (i32 (r19)))) (st' := []) rfl rfl ?_
              obtain ⟨L72, eL72⟩ : ∃ q, q = jSto1 L2 5 (.int (i32 (r19))) := ⟨_, rfl⟩
              rw [← eL72]
              have gL72_0 : jGet L72 0 = some (.ref 66) := eL72 ▸ jg_ne (by decide) gL2_0 rfl
              have gL72_1 : jGet L72 1 = some (.int (i32 (s))) := eL72 ▸ jg_ne (by decide) gL2_1 rfl
              have gL72_2 : jGet L72 2 = some (.int (i32 (place))) := eL72 ▸ jg_ne (by decide) gL2_2 rfl
              have gL72_3 : jGet L72 3 = some (.int (i32 (ch))) := eL72 ▸ jg_ne (by decide) gL2_3 rfl
              have gL72_4 : jGet L72 4 = some (.int (i32 (A 7 (s).toNat))) := eL72 ▸ jg_ne (by decide) gL2_4 rfl
              have gL72_5 : jGet L72 5 = some (.int (i32 (r19))) := eL72 ▸ jg_eq
              refine jx_ld (pc' := 53) (l' := L72) (st' := [.ref 66]) rfl (jl_aloadn gL72_0) ?_
              refine jx_ar (pc' := 54) (st' := [.int (i32 (3)), .ref 66]) rfl rfl rfl rfl ?_
              refine jx_ld (pc' := 55) (l' := L72) (st' := [.int (i32 (s)), .int (i32 (3)), .ref 66]) rfl (jl_iloadn gL72_1) ?_
              refine jx_ld (pc' := 57) (l' := L72) (st' := [.int (i32 (r19)), .int (i32 (s)), .int (i32 (3)), .ref 66]) rfl (jl_iload gL72_5) ?_
              refine jx_ar (pc' := 58) (st' := [.int (i32 (0)), .int (i32 (r19)), .int (i32 (s)), .int (i32 (3)), .ref 66]) rfl rfl rfl rfl ?_
              refine jx_ar (pc' := 59) (st' := [.int (i32 (0)), .int (i32 (0)), .int (i32 (r19)), .int (i32 (s)), .int (i32 (3)), .ref 66]) rfl rfl rfl rfl ?_
              refine jx_vr (pc' := 62) (as := [.int (i32 (3)), .int (i32 (s)), .int (i32 (r19)), .int (i32 (0)), .int (i32 (0))]) (st := []) rfl rfl rfl rfl ⟨rfl, rfl, Nat.le_of_ble_eq_true rfl⟩ rfl rfl (c_node_e (dd := d) (hd := by omega) (hW := hW26) (kind := 3) (a := s) (b := r19) (c := 0) (e := 0) (nd := nd2_23) (e_nd := show G17 31 = nd2_23 from (e33)) (ec := ec2_25) (e_ec := show ecn A18 (G17 31) = ec2_25 from e35) (sy := sy) (e_sy := show G17 19 = sy from ((hF27.1 19 rfl).trans (e_sy)))  (h_kind := ⟨(by decide), (by decide)⟩) (h_a := ⟨(Int.le_trans (by decide : (-2147483648 : Int) ≤ -2147483648) h_s.1), (Int.le_trans h_s.2 (by decide : (2147483647 : Int) ≤ 2147483647))⟩) (h_b := ⟨(Int.le_trans (by decide : (-2147483648 : Int) ≤ -2147483648) b29.1), (Int.le_trans b29.2 (by decide : (2147483647 : Int) ≤ 2147483647))⟩) (h_c := ⟨(by decide), (by decide)⟩) (h_e := ⟨(by decide), (by decide)⟩)  (p_0 := by omega) (p_1 := by omega) (p_2 := by omega)) (fun o V' hq => ?_)
              obtain ⟨G73, A74, nd2_75, ec2_76, rfl, rfl, hW77, hF78, hQ79, e80, e81, p82, p83, p84, p85, -⟩ := hq
              have hF87 := Fr_tr hF43 hF78 (Fr_sub (by decide)) (Fr_sub (by decide))
              have hP88 := Pf_tr hP44 hQ79 (by omega)
              have sf89 : wE A74 Vs sb (2 * 9 + 2) (r19) (nd) (nd2_23) := wE_ag (by omega) (Sg_fr hF78 (by decide)) (Ag_pf hQ79 (by omega)) a51
              have sf90 : NdM A74 (nd) (nd2_23) (sy) := NdM_pf hQ79 (by omega) (by omega) a53
              have bnd2_75 : (0 : Int) ≤ nd2_75 ∧ nd2_75 ≤ 6999 := e80 ▸ hW77.1 31
              refine .inr ⟨_, rfl, ?_⟩
              refine jx_rt (v := some (.int (i32 (nd2_23)))) rfl rfl rfl rfl rfl rfl ?_
              have z91 := tz_f (tk2_24)
              exact ⟨_, _, _, at2_20, fk2_21, op2_22, nd2_75, tk2_24, ec2_76, rfl, rfl, hW77, hF87, hP88, by omega, ((hF78.1 10 rfl).trans (e30)), ((hF78.1 16 rfl).trans (e31)), ((hF78.1 15 rfl).trans (e32)), (e80), ((hF78.1 11 rfl).trans (e34)), e81, by omega, by omega, by omega, by omega, by omega, by omega, by first | exact Or.inr ((⟨by omega, by omega, by omega, (wR_elem p84 (by omega) (by omega) p_9 (kq (P := kRow (ch)) (show A74 7 (s).toNat = A 7 (s).toNat from (congrFun ((hF78.2 7 rfl).trans (hF27.2 7 rfl)) _)) (by first | exact .inl ⟨by omega, a15⟩ | exact .inr ⟨by omega, by omega⟩)) (wE_mono (by omega) (by omega) (by omega) sf89)), by omega, (NdM_w (NdM_app (sy := sy) sf90 p85 (by omega) (by omega) (by omega)) (by omega) (by omega) (by omega))⟩))⟩
          · have _q := h16
            exact absurd h16 (by omega)
        · have _q : True := trivial
          refine jx_if_ne (pc' := 38) (tg := 46) rfl rfl rfl (by decide) (by decide) (fun h92 => ?_) (fun h92 => ?_)
          · have _q := h92
            exact absurd h92 (by omega)
          · have _q := h92
            refine jx_ld (pc' := 39) (l' := L2) (st' := [.ref 66]) rfl (jl_aloadn gL2_0) ?_
            refine jx_ar (pc' := 40) (st' := [.int (i32 (4)), .ref 66]) rfl rfl rfl rfl ?_
            refine jx_ld (pc' := 41) (l' := L2) (st' := [.int (i32 (place)), .int (i32 (4)), .ref 66]) rfl (jl_iloadn gL2_2) ?_
            refine jx_vr (pc' := 44) (as := [.int (i32 (4)), .int (i32 (place))]) (st := []) rfl rfl rfl rfl ⟨rfl, rfl, Nat.le_of_ble_eq_true rfl⟩ rfl rfl (c_fail (dd := d) (hd := by omega) (hW := hW) (kind := 4) (place := place) (fk := fk) (e_fk := show G 16 = fk from (e_fk))  (h_kind := ⟨(by decide), (by decide)⟩) (h_place := ⟨(Int.le_trans (by decide : (-2147483648 : Int) ≤ -2147483648) h_place.1), (Int.le_trans h_place.2 (by decide : (2147483647 : Int) ≤ 2147483647))⟩)  (p_0 := by omega) (p_1 := by omega)) (fun o V' hq => ?_)
            obtain ⟨G93, A94, fk2_95, rfl, rfl, hW96, hF97, e98, p99, -⟩ := hq
            have hF101 := Fr_tr hF0 hF97 (Fr_sub (by decide)) (Fr_sub (by decide))
            have hP102 := Pf_f hP0 hF97 (by decide)
            have ec103 : ecn A94 (G93 31) = ec := (ecn_f (hF97.2 15 rfl) (hF97.1 31 rfl)).trans e_ec
            have bfk2_95 : (0 : Int) ≤ fk2_95 ∧ fk2_95 ≤ 6 := e98 ▸ hW96.1 16
            refine .inl ⟨rfl, ?_⟩
            refine jx_ar (pc' := 45) (st' := [.int (i32 (0))]) rfl rfl rfl rfl ?_
            refine jx_rt (v := some (.int (i32 (0)))) rfl rfl rfl rfl rfl rfl ?_
            have z104 := tz_f (tk0)
            exact ⟨_, _, _, at0, fk2_95, op0, nd, tk0, ec, rfl, rfl, hW96, hF101, hP102, by omega, ((hF97.1 10 rfl).trans (e_at0)), (e98), ((hF97.1 15 rfl).trans (e_op0)), ((hF97.1 31 rfl).trans (e_nd)), ((hF97.1 11 rfl).trans (e_tk0)), ec103, by omega, by omega, by omega, by omega, by omega, by omega, by first | exact Or.inl (⟨by omega, by omega, by omega⟩)⟩
      · have _q := h11
        refine jx_ld (pc' := 23) (l' := L2) (st' := [.int (i32 (A 7 (s).toNat))]) rfl (jl_iload gL2_4) ?_
        refine jx_ar (pc' := 24) (st' := [.int (i32 (4)), .int (i32 (A 7 (s).toNat))]) rfl rfl rfl rfl ?_
        refine jx_icmp_eq (pc' := 27) (tg := 46) rfl rfl rfl (Int.le_trans (by decide : (-2147483648 : Int) ≤ 0) b1.1) (Int.le_trans b1.2 (by decide : (14 : Int) ≤ 2147483647)) (by decide) (by decide) (fun h105 => ?_) (fun h105 => ?_)
        · have _q := h105
          refine jx_ld (pc' := 47) (l' := L2) (st' := [.ref 66]) rfl (jl_aloadn gL2_0) ?_
          refine jx_vr (pc' := 50) (as := []) (st := []) rfl rfl rfl rfl ⟨rfl, rfl, Nat.le_of_ble_eq_true rfl⟩ rfl rfl (c_readIndex_w (dd := d) (k := 9) (hE := REw_all X 9) (hd := by omega) (hW := hW)  (ln := ln) (e_ln := show G 9 = ln from (e_ln)) (le := le) (e_le := show A 4 (ln).toNat = le from (e_le)) (at0 := at0) (e_at0 := show G 10 = at0 from (e_at0)) (fk := fk) (e_fk := show G 16 = fk from (e_fk)) (op0 := op0) (e_op0 := show G 15 = op0 from (e_op0)) (nd := nd) (e_nd := show G 31 = nd from (e_nd)) (tk0 := tk0) (e_tk0 := show G 11 = tk0 from (e_tk0)) (ec := ec) (e_ec := show ecn A (G 31) = ec from e_ec) (sy := sy) (e_sy := show G 19 = sy from (e_sy)) (i_SV := (SV_ext (rfl) (rfl) i_SV))   (p_0 := by omega) (p_1 := by omega) (p_2 := by omega) (p_3 := by omega) (p_4 := by omega) (p_5 := by omega) (p_6 := by omega) (p_7 := by omega) (p_8 := by omega)) (fun o V' hq => ?_)
          obtain ⟨G106, A107, r108, at2_109, fk2_110, op2_111, nd2_112, tk2_113, ec2_114, rfl, rfl, hW115, hF116, hQ117, b118, e119, e120, e121, e122, e123, e124, p125, p126, p127, p128, p129, p130, q131⟩ := hq
          have hF132 := Fr_tr hF0 hF116 (Fr_sub (by decide)) (Fr_sub (by decide))
          have hP133 := Pf_tr hP0 hQ117 (by omega)
          have bat2_109 : (0 : Int) ≤ at2_109 ∧ at2_109 ≤ 3002 := e119 ▸ hW115.1 10
          have bfk2_110 : (0 : Int) ≤ fk2_110 ∧ fk2_110 ≤ 6 := e120 ▸ hW115.1 16
          have bop2_111 : (-2147483648 : Int) ≤ op2_111 ∧ op2_111 ≤ 2147483647 := e121 ▸ hW115.1 15
          have bnd2_112 : (0 : Int) ≤ nd2_112 ∧ nd2_112 ≤ 6999 := e122 ▸ hW115.1 31
          have ztk2_113 := tz_b tk2_113
          have btk2_113 : (0 : Int) ≤ tk2_113 ∧ tk2_113 ≤ 5 := e123 ▸ hW115.1 11
          refine .inr ⟨_, rfl, ?_⟩
          rcases q131 with ⟨a134, a135, a136⟩ | ⟨a137, a138, a139, a140, a141, a142⟩
          · have _q : True := trivial
            refine jx_ld (pc' := 52) (l' := jSto1 L2 5 (.int (i32 (r108)))) (st' := []) rfl rfl ?_
            obtain ⟨L143, eL143⟩ : ∃ q, q = jSto1 L2 5 (.int (i32 (r108))) := ⟨_, rfl⟩
            rw [← eL143]
            have gL143_0 : jGet L143 0 = some (.ref 66) := eL143 ▸ jg_ne (by decide) gL2_0 rfl
            have gL143_1 : jGet L143 1 = some (.int (i32 (s))) := eL143 ▸ jg_ne (by decide) gL2_1 rfl
            have gL143_2 : jGet L143 2 = some (.int (i32 (place))) := eL143 ▸ jg_ne (by decide) gL2_2 rfl
            have gL143_3 : jGet L143 3 = some (.int (i32 (ch))) := eL143 ▸ jg_ne (by decide) gL2_3 rfl
            have gL143_4 : jGet L143 4 = some (.int (i32 (A 7 (s).toNat))) := eL143 ▸ jg_ne (by decide) gL2_4 rfl
            have gL143_5 : jGet L143 5 = some (.int (i32 (r108))) := eL143 ▸ jg_eq
            refine jx_ld (pc' := 53) (l' := L143) (st' := [.ref 66]) rfl (jl_aloadn gL143_0) ?_
            refine jx_ar (pc' := 54) (st' := [.int (i32 (3)), .ref 66]) rfl rfl rfl rfl ?_
            refine jx_ld (pc' := 55) (l' := L143) (st' := [.int (i32 (s)), .int (i32 (3)), .ref 66]) rfl (jl_iloadn gL143_1) ?_
            refine jx_ld (pc' := 57) (l' := L143) (st' := [.int (i32 (r108)), .int (i32 (s)), .int (i32 (3)), .ref 66]) rfl (jl_iload gL143_5) ?_
            refine jx_ar (pc' := 58) (st' := [.int (i32 (0)), .int (i32 (r108)), .int (i32 (s)), .int (i32 (3)), .ref 66]) rfl rfl rfl rfl ?_
            refine jx_ar (pc' := 59) (st' := [.int (i32 (0)), .int (i32 (0)), .int (i32 (r108)), .int (i32 (s)), .int (i32 (3)), .ref 66]) rfl rfl rfl rfl ?_
            refine jx_vr (pc' := 62) (as := [.int (i32 (3)), .int (i32 (s)), .int (i32 (r108)), .int (i32 (0)), .int (i32 (0))]) (st := []) rfl rfl rfl rfl ⟨rfl, rfl, Nat.le_of_ble_eq_true rfl⟩ rfl rfl (c_node_e (dd := d) (hd := by omega) (hW := hW115) (kind := 3) (a := s) (b := r108) (c := 0) (e := 0) (nd := nd2_112) (e_nd := show G106 31 = nd2_112 from (e122)) (ec := ec2_114) (e_ec := show ecn A107 (G106 31) = ec2_114 from e124) (sy := sy) (e_sy := show G106 19 = sy from ((hF116.1 19 rfl).trans (e_sy)))  (h_kind := ⟨(by decide), (by decide)⟩) (h_a := ⟨(Int.le_trans (by decide : (-2147483648 : Int) ≤ -2147483648) h_s.1), (Int.le_trans h_s.2 (by decide : (2147483647 : Int) ≤ 2147483647))⟩) (h_b := ⟨(Int.le_trans (by decide : (-2147483648 : Int) ≤ -2147483648) b118.1), (Int.le_trans b118.2 (by decide : (2147483647 : Int) ≤ 2147483647))⟩) (h_c := ⟨(by decide), (by decide)⟩) (h_e := ⟨(by decide), (by decide)⟩)  (p_0 := by omega) (p_1 := by omega) (p_2 := by omega)) (fun o V' hq => ?_)
            obtain ⟨G144, A145, nd2_146, ec2_147, rfl, rfl, hW148, hF149, hQ150, e151, e152, p153, p154, p155, p156, -⟩ := hq
            have hF158 := Fr_tr hF132 hF149 (Fr_sub (by decide)) (Fr_sub (by decide))
            have hP159 := Pf_tr hP133 hQ150 (by omega)
            have bnd2_146 : (0 : Int) ≤ nd2_146 ∧ nd2_146 ≤ 6999 := e151 ▸ hW148.1 31
            refine .inr ⟨_, rfl, ?_⟩
            refine jx_rt (v := some (.int (i32 (nd2_112)))) rfl rfl rfl rfl rfl rfl ?_
            have z160 := tz_f (tk2_113)
            exact ⟨_, _, _, at2_109, fk2_110, op2_111, nd2_146, tk2_113, ec2_147, rfl, rfl, hW148, hF158, hP159, by omega, ((hF149.1 10 rfl).trans (e119)), ((hF149.1 16 rfl).trans (e120)), ((hF149.1 15 rfl).trans (e121)), (e151), ((hF149.1 11 rfl).trans (e123)), e152, by omega, by omega, by omega, by omega, by omega, by omega, by first | exact Or.inl (⟨by omega, by omega, by omega⟩)⟩
          · have _q : True := trivial
            refine jx_ld (pc' := 52) (l' := jSto1 L2 5 (.int (i32 (r108)))) (st' := []) rfl rfl ?_
            obtain ⟨L161, eL161⟩ : ∃ q, q = jSto1 L2 5 (.int (i32 (r108))) := ⟨_, rfl⟩
            rw [← eL161]
            have gL161_0 : jGet L161 0 = some (.ref 66) := eL161 ▸ jg_ne (by decide) gL2_0 rfl
            have gL161_1 : jGet L161 1 = some (.int (i32 (s))) := eL161 ▸ jg_ne (by decide) gL2_1 rfl
            have gL161_2 : jGet L161 2 = some (.int (i32 (place))) := eL161 ▸ jg_ne (by decide) gL2_2 rfl
            have gL161_3 : jGet L161 3 = some (.int (i32 (ch))) := eL161 ▸ jg_ne (by decide) gL2_3 rfl
            have gL161_4 : jGet L161 4 = some (.int (i32 (A 7 (s).toNat))) := eL161 ▸ jg_ne (by decide) gL2_4 rfl
            have gL161_5 : jGet L161 5 = some (.int (i32 (r108))) := eL161 ▸ jg_eq
            refine jx_ld (pc' := 53) (l' := L161) (st' := [.ref 66]) rfl (jl_aloadn gL161_0) ?_
            refine jx_ar (pc' := 54) (st' := [.int (i32 (3)), .ref 66]) rfl rfl rfl rfl ?_
            refine jx_ld (pc' := 55) (l' := L161) (st' := [.int (i32 (s)), .int (i32 (3)), .ref 66]) rfl (jl_iloadn gL161_1) ?_
            refine jx_ld (pc' := 57) (l' := L161) (st' := [.int (i32 (r108)), .int (i32 (s)), .int (i32 (3)), .ref 66]) rfl (jl_iload gL161_5) ?_
            refine jx_ar (pc' := 58) (st' := [.int (i32 (0)), .int (i32 (r108)), .int (i32 (s)), .int (i32 (3)), .ref 66]) rfl rfl rfl rfl ?_
            refine jx_ar (pc' := 59) (st' := [.int (i32 (0)), .int (i32 (0)), .int (i32 (r108)), .int (i32 (s)), .int (i32 (3)), .ref 66]) rfl rfl rfl rfl ?_
            refine jx_vr (pc' := 62) (as := [.int (i32 (3)), .int (i32 (s)), .int (i32 (r108)), .int (i32 (0)), .int (i32 (0))]) (st := []) rfl rfl rfl rfl ⟨rfl, rfl, Nat.le_of_ble_eq_true rfl⟩ rfl rfl (c_node_e (dd := d) (hd := by omega) (hW := hW115) (kind := 3) (a := s) (b := r108) (c := 0) (e := 0) (nd := nd2_112) (e_nd := show G106 31 = nd2_112 from (e122)) (ec := ec2_114) (e_ec := show ecn A107 (G106 31) = ec2_114 from e124) (sy := sy) (e_sy := show G106 19 = sy from ((hF116.1 19 rfl).trans (e_sy)))  (h_kind := ⟨(by decide), (by decide)⟩) (h_a := ⟨(Int.le_trans (by decide : (-2147483648 : Int) ≤ -2147483648) h_s.1), (Int.le_trans h_s.2 (by decide : (2147483647 : Int) ≤ 2147483647))⟩) (h_b := ⟨(Int.le_trans (by decide : (-2147483648 : Int) ≤ -2147483648) b118.1), (Int.le_trans b118.2 (by decide : (2147483647 : Int) ≤ 2147483647))⟩) (h_c := ⟨(by decide), (by decide)⟩) (h_e := ⟨(by decide), (by decide)⟩)  (p_0 := by omega) (p_1 := by omega) (p_2 := by omega)) (fun o V' hq => ?_)
            obtain ⟨G162, A163, nd2_164, ec2_165, rfl, rfl, hW166, hF167, hQ168, e169, e170, p171, p172, p173, p174, -⟩ := hq
            have hF176 := Fr_tr hF132 hF167 (Fr_sub (by decide)) (Fr_sub (by decide))
            have hP177 := Pf_tr hP133 hQ168 (by omega)
            have sf178 : wE A163 Vs sb (2 * 9 + 2) (r108) (nd) (nd2_112) := wE_ag (by omega) (Sg_fr hF167 (by decide)) (Ag_pf hQ168 (by omega)) a140
            have sf179 : NdM A163 (nd) (nd2_112) (sy) := NdM_pf hQ168 (by omega) (by omega) a142
            have bnd2_164 : (0 : Int) ≤ nd2_164 ∧ nd2_164 ≤ 6999 := e169 ▸ hW166.1 31
            refine .inr ⟨_, rfl, ?_⟩
            refine jx_rt (v := some (.int (i32 (nd2_112)))) rfl rfl rfl rfl rfl rfl ?_
            have z180 := tz_f (tk2_113)
            exact ⟨_, _, _, at2_109, fk2_110, op2_111, nd2_164, tk2_113, ec2_165, rfl, rfl, hW166, hF176, hP177, by omega, ((hF167.1 10 rfl).trans (e119)), ((hF167.1 16 rfl).trans (e120)), ((hF167.1 15 rfl).trans (e121)), (e169), ((hF167.1 11 rfl).trans (e123)), e170, by omega, by omega, by omega, by omega, by omega, by omega, by first | exact Or.inr ((⟨by omega, by omega, by omega, (wR_elem p173 (by omega) (by omega) p_9 (kq (P := kRow (ch)) (show A163 7 (s).toNat = A 7 (s).toNat from (congrFun ((hF167.2 7 rfl).trans (hF116.2 7 rfl)) _)) (by first | exact .inr ⟨by omega, by omega⟩)) (wE_mono (by omega) (by omega) (by omega) sf178)), by omega, (NdM_w (NdM_app (sy := sy) sf179 p174 (by omega) (by omega) (by omega)) (by omega) (by omega) (by omega))⟩))⟩
        · have _q := h105
          refine jx_go (tg := 38) rfl rfl ?_
          refine jx_ld (pc' := 39) (l' := L2) (st' := [.ref 66]) rfl (jl_aloadn gL2_0) ?_
          refine jx_ar (pc' := 40) (st' := [.int (i32 (4)), .ref 66]) rfl rfl rfl rfl ?_
          refine jx_ld (pc' := 41) (l' := L2) (st' := [.int (i32 (place)), .int (i32 (4)), .ref 66]) rfl (jl_iloadn gL2_2) ?_
          refine jx_vr (pc' := 44) (as := [.int (i32 (4)), .int (i32 (place))]) (st := []) rfl rfl rfl rfl ⟨rfl, rfl, Nat.le_of_ble_eq_true rfl⟩ rfl rfl (c_fail (dd := d) (hd := by omega) (hW := hW) (kind := 4) (place := place) (fk := fk) (e_fk := show G 16 = fk from (e_fk))  (h_kind := ⟨(by decide), (by decide)⟩) (h_place := ⟨(Int.le_trans (by decide : (-2147483648 : Int) ≤ -2147483648) h_place.1), (Int.le_trans h_place.2 (by decide : (2147483647 : Int) ≤ 2147483647))⟩)  (p_0 := by omega) (p_1 := by omega)) (fun o V' hq => ?_)
          obtain ⟨G181, A182, fk2_183, rfl, rfl, hW184, hF185, e186, p187, -⟩ := hq
          have hF189 := Fr_tr hF0 hF185 (Fr_sub (by decide)) (Fr_sub (by decide))
          have hP190 := Pf_f hP0 hF185 (by decide)
          have ec191 : ecn A182 (G181 31) = ec := (ecn_f (hF185.2 15 rfl) (hF185.1 31 rfl)).trans e_ec
          have bfk2_183 : (0 : Int) ≤ fk2_183 ∧ fk2_183 ≤ 6 := e186 ▸ hW184.1 16
          refine .inl ⟨rfl, ?_⟩
          refine jx_ar (pc' := 45) (st' := [.int (i32 (0))]) rfl rfl rfl rfl ?_
          refine jx_rt (v := some (.int (i32 (0)))) rfl rfl rfl rfl rfl rfl ?_
          have z192 := tz_f (tk0)
          exact ⟨_, _, _, at0, fk2_183, op0, nd, tk0, ec, rfl, rfl, hW184, hF189, hP190, by omega, ((hF185.1 10 rfl).trans (e_at0)), (e186), ((hF185.1 15 rfl).trans (e_op0)), ((hF185.1 31 rfl).trans (e_nd)), ((hF185.1 11 rfl).trans (e_tk0)), ec191, by omega, by omega, by omega, by omega, by omega, by omega, by first | exact Or.inl (⟨by omega, by omega, by omega⟩)⟩
  · have _q : True := trivial
    refine jx_if_eq (pc' := 17) (tg := 63) rfl rfl rfl (by decide) (by decide) (fun h193 => ?_) (fun h193 => ?_)
    · have _q := h193
      refine jx_ld (pc' := 64) (l' := L2) (st' := [.int (i32 (ch))]) rfl (jl_iloadn gL2_3) ?_
      refine jx_if_eq (pc' := 67) (tg := 78) rfl rfl rfl (Int.le_trans (by decide : (-2147483648 : Int) ≤ 0) h_ch.1) (Int.le_trans h_ch.2 (by decide : (1 : Int) ≤ 2147483647)) (fun h194 => ?_) (fun h194 => ?_)
      · have _q := h194
        refine jx_ld (pc' := 80) (l' := L2) (st' := [.int (i32 (A 7 (s).toNat))]) rfl (jl_iload gL2_4) ?_
        refine jx_st (pc' := 83) (as := [.int (i32 (A 7 (s).toNat))]) (st := []) rfl rfl ⟨rfl, Nat.le_of_ble_eq_true rfl⟩ rfl rfl rfl (c_isVariable (dd := d) (hd := by omega) (k := A 7 (s).toNat)   (h_k := ⟨(Int.le_trans (by decide : (-2147483648 : Int) ≤ 0) b1.1), (Int.le_trans b1.2 (by decide : (14 : Int) ≤ 2147483647))⟩)  ) (fun o V' hq => ?_)
        obtain ⟨r195, rfl, rfl, b196, q197⟩ := hq
        refine .inr ⟨_, rfl, ?_⟩
        rcases q197 with ⟨rfl, a198⟩ | rfl
        · have _q : True := trivial
          refine jx_if_ne (pc' := 86) (tg := 94) rfl rfl rfl (by decide) (by decide) (fun h199 => ?_) (fun h199 => ?_)
          · have _q := h199
            refine jx_ld (pc' := 95) (l' := L2) (st' := [.ref 66]) rfl (jl_aloadn gL2_0) ?_
            refine jx_ar (pc' := 96) (st' := [.int (i32 (2)), .ref 66]) rfl rfl rfl rfl ?_
            refine jx_ld (pc' := 97) (l' := L2) (st' := [.int (i32 (s)), .int (i32 (2)), .ref 66]) rfl (jl_iloadn gL2_1) ?_
            refine jx_ar (pc' := 98) (st' := [.int (i32 (0)), .int (i32 (s)), .int (i32 (2)), .ref 66]) rfl rfl rfl rfl ?_
            refine jx_ar (pc' := 99) (st' := [.int (i32 (0)), .int (i32 (0)), .int (i32 (s)), .int (i32 (2)), .ref 66]) rfl rfl rfl rfl ?_
            refine jx_ar (pc' := 100) (st' := [.int (i32 (0)), .int (i32 (0)), .int (i32 (0)), .int (i32 (s)), .int (i32 (2)), .ref 66]) rfl rfl rfl rfl ?_
            refine jx_vr (pc' := 103) (as := [.int (i32 (2)), .int (i32 (s)), .int (i32 (0)), .int (i32 (0)), .int (i32 (0))]) (st := []) rfl rfl rfl rfl ⟨rfl, rfl, Nat.le_of_ble_eq_true rfl⟩ rfl rfl (c_node_o (dd := d) (hd := by omega) (hW := hW) (kind := 2) (a := s) (b := 0) (c := 0) (e := 0) (nd := nd) (e_nd := show G 31 = nd from (e_nd)) (ec := ec) (e_ec := show ecn A (G 31) = ec from e_ec) (sy := sy) (e_sy := show G 19 = sy from (e_sy))  (h_kind := ⟨(by decide), (by decide)⟩) (h_a := ⟨(Int.le_trans (by decide : (-2147483648 : Int) ≤ -2147483648) h_s.1), (Int.le_trans h_s.2 (by decide : (2147483647 : Int) ≤ 2147483647))⟩) (h_b := ⟨(by decide), (by decide)⟩) (h_c := ⟨(by decide), (by decide)⟩) (h_e := ⟨(by decide), (by decide)⟩)  (p_0 := by omega) (p_1 := by omega) (p_2 := by omega)) (fun o V' hq => ?_)
            obtain ⟨G200, A201, nd2_202, ec2_203, rfl, rfl, hW204, hF205, hQ206, e207, e208, p209, p210, p211, p212, -⟩ := hq
            have hF214 := Fr_tr hF0 hF205 (Fr_sub (by decide)) (Fr_sub (by decide))
            have hP215 := Pf_tr hP0 hQ206 (by omega)
            have bnd2_202 : (0 : Int) ≤ nd2_202 ∧ nd2_202 ≤ 6999 := e207 ▸ hW204.1 31
            refine .inr ⟨_, rfl, ?_⟩
            refine jx_rt (v := some (.int (i32 (nd)))) rfl rfl rfl rfl rfl rfl ?_
            have z216 := tz_f (tk0)
            exact ⟨_, _, _, at0, fk, op0, nd2_202, tk0, ec2_203, rfl, rfl, hW204, hF214, hP215, by omega, ((hF205.1 10 rfl).trans (e_at0)), ((hF205.1 16 rfl).trans (e_fk)), ((hF205.1 15 rfl).trans (e_op0)), (e207), ((hF205.1 11 rfl).trans (e_tk0)), e208, by omega, by omega, by omega, by omega, by omega, by omega, by first | exact Or.inr ((⟨by omega, by omega, by omega, (wR_var p211 (by omega) (by omega) p_9 (kq (P := kRef (ch)) (show A201 7 (s).toNat = A 7 (s).toNat from (congrFun (hF205.2 7 rfl) _)) (by first | exact .inl ⟨by omega, a198⟩))), by omega, (NdM_w p212 (by omega) (by omega) (by omega))⟩))⟩
          · have _q := h199
            exact absurd h199 (by omega)
        · have _q : True := trivial
          refine jx_if_ne (pc' := 86) (tg := 94) rfl rfl rfl (by decide) (by decide) (fun h217 => ?_) (fun h217 => ?_)
          · have _q := h217
            exact absurd h217 (by omega)
          · have _q := h217
            refine jx_ld (pc' := 87) (l' := L2) (st' := [.ref 66]) rfl (jl_aloadn gL2_0) ?_
            refine jx_ar (pc' := 88) (st' := [.int (i32 (4)), .ref 66]) rfl rfl rfl rfl ?_
            refine jx_ld (pc' := 89) (l' := L2) (st' := [.int (i32 (place)), .int (i32 (4)), .ref 66]) rfl (jl_iloadn gL2_2) ?_
            refine jx_vr (pc' := 92) (as := [.int (i32 (4)), .int (i32 (place))]) (st := []) rfl rfl rfl rfl ⟨rfl, rfl, Nat.le_of_ble_eq_true rfl⟩ rfl rfl (c_fail (dd := d) (hd := by omega) (hW := hW) (kind := 4) (place := place) (fk := fk) (e_fk := show G 16 = fk from (e_fk))  (h_kind := ⟨(by decide), (by decide)⟩) (h_place := ⟨(Int.le_trans (by decide : (-2147483648 : Int) ≤ -2147483648) h_place.1), (Int.le_trans h_place.2 (by decide : (2147483647 : Int) ≤ 2147483647))⟩)  (p_0 := by omega) (p_1 := by omega)) (fun o V' hq => ?_)
            obtain ⟨G218, A219, fk2_220, rfl, rfl, hW221, hF222, e223, p224, -⟩ := hq
            have hF226 := Fr_tr hF0 hF222 (Fr_sub (by decide)) (Fr_sub (by decide))
            have hP227 := Pf_f hP0 hF222 (by decide)
            have ec228 : ecn A219 (G218 31) = ec := (ecn_f (hF222.2 15 rfl) (hF222.1 31 rfl)).trans e_ec
            have bfk2_220 : (0 : Int) ≤ fk2_220 ∧ fk2_220 ≤ 6 := e223 ▸ hW221.1 16
            refine .inl ⟨rfl, ?_⟩
            refine jx_ar (pc' := 93) (st' := [.int (i32 (0))]) rfl rfl rfl rfl ?_
            refine jx_rt (v := some (.int (i32 (0)))) rfl rfl rfl rfl rfl rfl ?_
            have z229 := tz_f (tk0)
            exact ⟨_, _, _, at0, fk2_220, op0, nd, tk0, ec, rfl, rfl, hW221, hF226, hP227, by omega, ((hF222.1 10 rfl).trans (e_at0)), (e223), ((hF222.1 15 rfl).trans (e_op0)), ((hF222.1 31 rfl).trans (e_nd)), ((hF222.1 11 rfl).trans (e_tk0)), ec228, by omega, by omega, by omega, by omega, by omega, by omega, by first | exact Or.inl (⟨by omega, by omega, by omega⟩)⟩
      · have _q := h194
        refine jx_ld (pc' := 69) (l' := L2) (st' := [.int (i32 (A 7 (s).toNat))]) rfl (jl_iload gL2_4) ?_
        refine jx_st (pc' := 72) (as := [.int (i32 (A 7 (s).toNat))]) (st := []) rfl rfl ⟨rfl, Nat.le_of_ble_eq_true rfl⟩ rfl rfl rfl (c_isChannel (dd := d) (hd := by omega) (k := A 7 (s).toNat)   (h_k := ⟨(Int.le_trans (by decide : (-2147483648 : Int) ≤ 0) b1.1), (Int.le_trans b1.2 (by decide : (14 : Int) ≤ 2147483647))⟩)  ) (fun o V' hq => ?_)
        obtain ⟨r230, rfl, rfl, b231, q232⟩ := hq
        refine .inr ⟨_, rfl, ?_⟩
        rcases q232 with ⟨rfl, a233⟩ | rfl
        · have _q : True := trivial
          refine jx_if_ne (pc' := 75) (tg := 94) rfl rfl rfl (by decide) (by decide) (fun h234 => ?_) (fun h234 => ?_)
          · have _q := h234
            refine jx_ld (pc' := 95) (l' := L2) (st' := [.ref 66]) rfl (jl_aloadn gL2_0) ?_
            refine jx_ar (pc' := 96) (st' := [.int (i32 (2)), .ref 66]) rfl rfl rfl rfl ?_
            refine jx_ld (pc' := 97) (l' := L2) (st' := [.int (i32 (s)), .int (i32 (2)), .ref 66]) rfl (jl_iloadn gL2_1) ?_
            refine jx_ar (pc' := 98) (st' := [.int (i32 (0)), .int (i32 (s)), .int (i32 (2)), .ref 66]) rfl rfl rfl rfl ?_
            refine jx_ar (pc' := 99) (st' := [.int (i32 (0)), .int (i32 (0)), .int (i32 (s)), .int (i32 (2)), .ref 66]) rfl rfl rfl rfl ?_
            refine jx_ar (pc' := 100) (st' := [.int (i32 (0)), .int (i32 (0)), .int (i32 (0)), .int (i32 (s)), .int (i32 (2)), .ref 66]) rfl rfl rfl rfl ?_
            refine jx_vr (pc' := 103) (as := [.int (i32 (2)), .int (i32 (s)), .int (i32 (0)), .int (i32 (0)), .int (i32 (0))]) (st := []) rfl rfl rfl rfl ⟨rfl, rfl, Nat.le_of_ble_eq_true rfl⟩ rfl rfl (c_node_o (dd := d) (hd := by omega) (hW := hW) (kind := 2) (a := s) (b := 0) (c := 0) (e := 0) (nd := nd) (e_nd := show G 31 = nd from (e_nd)) (ec := ec) (e_ec := show ecn A (G 31) = ec from e_ec) (sy := sy) (e_sy := show G 19 = sy from (e_sy))  (h_kind := ⟨(by decide), (by decide)⟩) (h_a := ⟨(Int.le_trans (by decide : (-2147483648 : Int) ≤ -2147483648) h_s.1), (Int.le_trans h_s.2 (by decide : (2147483647 : Int) ≤ 2147483647))⟩) (h_b := ⟨(by decide), (by decide)⟩) (h_c := ⟨(by decide), (by decide)⟩) (h_e := ⟨(by decide), (by decide)⟩)  (p_0 := by omega) (p_1 := by omega) (p_2 := by omega)) (fun o V' hq => ?_)
            obtain ⟨G235, A236, nd2_237, ec2_238, rfl, rfl, hW239, hF240, hQ241, e242, e243, p244, p245, p246, p247, -⟩ := hq
            have hF249 := Fr_tr hF0 hF240 (Fr_sub (by decide)) (Fr_sub (by decide))
            have hP250 := Pf_tr hP0 hQ241 (by omega)
            have bnd2_237 : (0 : Int) ≤ nd2_237 ∧ nd2_237 ≤ 6999 := e242 ▸ hW239.1 31
            refine .inr ⟨_, rfl, ?_⟩
            refine jx_rt (v := some (.int (i32 (nd)))) rfl rfl rfl rfl rfl rfl ?_
            have z251 := tz_f (tk0)
            exact ⟨_, _, _, at0, fk, op0, nd2_237, tk0, ec2_238, rfl, rfl, hW239, hF249, hP250, by omega, ((hF240.1 10 rfl).trans (e_at0)), ((hF240.1 16 rfl).trans (e_fk)), ((hF240.1 15 rfl).trans (e_op0)), (e242), ((hF240.1 11 rfl).trans (e_tk0)), e243, by omega, by omega, by omega, by omega, by omega, by omega, by first | exact Or.inr ((⟨by omega, by omega, by omega, (wR_var p246 (by omega) (by omega) p_9 (kq (P := kRef (ch)) (show A236 7 (s).toNat = A 7 (s).toNat from (congrFun (hF240.2 7 rfl) _)) (by first | exact .inr ⟨by omega, a233⟩))), by omega, (NdM_w p247 (by omega) (by omega) (by omega))⟩))⟩
          · have _q := h234
            exact absurd h234 (by omega)
        · have _q : True := trivial
          refine jx_if_ne (pc' := 75) (tg := 94) rfl rfl rfl (by decide) (by decide) (fun h252 => ?_) (fun h252 => ?_)
          · have _q := h252
            exact absurd h252 (by omega)
          · have _q := h252
            refine jx_go (tg := 86) rfl rfl ?_
            refine jx_ld (pc' := 87) (l' := L2) (st' := [.ref 66]) rfl (jl_aloadn gL2_0) ?_
            refine jx_ar (pc' := 88) (st' := [.int (i32 (4)), .ref 66]) rfl rfl rfl rfl ?_
            refine jx_ld (pc' := 89) (l' := L2) (st' := [.int (i32 (place)), .int (i32 (4)), .ref 66]) rfl (jl_iloadn gL2_2) ?_
            refine jx_vr (pc' := 92) (as := [.int (i32 (4)), .int (i32 (place))]) (st := []) rfl rfl rfl rfl ⟨rfl, rfl, Nat.le_of_ble_eq_true rfl⟩ rfl rfl (c_fail (dd := d) (hd := by omega) (hW := hW) (kind := 4) (place := place) (fk := fk) (e_fk := show G 16 = fk from (e_fk))  (h_kind := ⟨(by decide), (by decide)⟩) (h_place := ⟨(Int.le_trans (by decide : (-2147483648 : Int) ≤ -2147483648) h_place.1), (Int.le_trans h_place.2 (by decide : (2147483647 : Int) ≤ 2147483647))⟩)  (p_0 := by omega) (p_1 := by omega)) (fun o V' hq => ?_)
            obtain ⟨G253, A254, fk2_255, rfl, rfl, hW256, hF257, e258, p259, -⟩ := hq
            have hF261 := Fr_tr hF0 hF257 (Fr_sub (by decide)) (Fr_sub (by decide))
            have hP262 := Pf_f hP0 hF257 (by decide)
            have ec263 : ecn A254 (G253 31) = ec := (ecn_f (hF257.2 15 rfl) (hF257.1 31 rfl)).trans e_ec
            have bfk2_255 : (0 : Int) ≤ fk2_255 ∧ fk2_255 ≤ 6 := e258 ▸ hW256.1 16
            refine .inl ⟨rfl, ?_⟩
            refine jx_ar (pc' := 93) (st' := [.int (i32 (0))]) rfl rfl rfl rfl ?_
            refine jx_rt (v := some (.int (i32 (0)))) rfl rfl rfl rfl rfl rfl ?_
            have z264 := tz_f (tk0)
            exact ⟨_, _, _, at0, fk2_255, op0, nd, tk0, ec, rfl, rfl, hW256, hF261, hP262, by omega, ((hF257.1 10 rfl).trans (e_at0)), (e258), ((hF257.1 15 rfl).trans (e_op0)), ((hF257.1 31 rfl).trans (e_nd)), ((hF257.1 11 rfl).trans (e_tk0)), ec263, by omega, by omega, by omega, by omega, by omega, by omega, by first | exact Or.inl (⟨by omega, by omega, by omega⟩)⟩
    · have _q := h193
      exact absurd h193 (by omega)
set_option maxRecDepth 20000 in
set_option maxHeartbeats 4000000 in
theorem c_readReference_w {X : jX} {dd : Nat} {Vs : Nat → Prop} {sb : Int} {c0 c1 : jC} {G : Nat → Int} {A : Nat → Nat → Int} {T : jH} {ch : Int} {ln le at0 fk op0 nd tk0 ec sy : Int} (hd : 68 ≤ dd) (hW : Wk G A) (e_ln : G 9 = ln) (e_le : A 4 (ln).toNat = le) (e_at0 : G 10 = at0) (e_fk : G 16 = fk) (e_op0 : G 15 = op0) (e_nd : G 31 = nd) (e_tk0 : G 11 = tk0) (e_ec : ecn A (G 31) = ec) (e_sy : G 19 = sy) (i_SV : SV Vs sb G A) (h_ch : (0 : Int) ≤ ch ∧ ch ≤ 1) (p_0 : 0 ≤ op0) (p_1 : op0 ≤ 9) (p_2 : op0 ≤ 8 ∨ 1 ≤ fk) (p_3 : nd ≤ 2 * at0 - tz tk0 + 50) (p_4 : at0 ≤ le) : wk X dd 290 [.ref 66, .int (i32 ch)] (rV c0 c1 G A T) (fun o V' => ∃ (G' : Nat → Int) (A' : Nat → Nat → Int) (r : Int) (at2 : Int) (fk2 : Int) (op2 : Int) (nd2 : Int) (tk2 : Int) (ec2 : Int), V' = rV c0 c1 G' A' T ∧ o = .inl (some (.int (i32 r))) ∧ Wk G' A' ∧ Fr [10, 11, 12, 13, 14, 15, 16, 17, 18, 31] [15, 16, 17, 18, 19, 20, 21, 22, 24, 28] G A G' A' ∧ Pf nd A A' ∧ ((-2147483648 : Int) ≤ r ∧ r ≤ 2147483647) ∧ G' 10 = at2 ∧ G' 16 = fk2 ∧ G' 15 = op2 ∧ G' 31 = nd2 ∧ G' 11 = tk2 ∧ ecn A' (G' 31) = ec2 ∧ (at0 ≤ at2) ∧ (at2 ≤ le) ∧ (nd ≤ nd2) ∧ (op2 = op0) ∧ (0 ≤ r) ∧ (r ≤ nd2) ∧ (((1 ≤ fk) ∧ (1 ≤ fk2) ∧ (nd2 = nd) ∧ (at2 = at0) ∧ (tk2 = tk0) ∧ (tz tk2 = tz tk0)) ∨ ((fk = 0) ∧ (1 ≤ fk2) ∧ (nd2 - nd ≤ (2 * at2 - tz tk2) - (2 * at0 - tz tk0) + 1)) ∨ ((fk = 0) ∧ (fk2 = 0) ∧ (nd2 - nd ≤ (2 * at2 - tz tk2) - (2 * at0 - tz tk0)) ∧ (wR A' Vs sb (20) (ch) (r) (nd) (nd2)) ∧ (nd2 - nd + 5 * (ec2 - ec) ≤ (2 * at2 - tz tk2) - (2 * at0 - tz tk0) - tz tk2) ∧ (NdM A' (nd) (nd2) (sy)) ∧ (tz tk0 = 1)))) := by
  obtain ⟨d, rfl⟩ : ∃ d, dd = d + 1 := ⟨dd - 1, by omega⟩
  refine wk_of (e := jm290) rfl (Nat.le_of_ble_eq_true rfl) ?_
  show wj X d jm290 (0, [(0, .ref 66), (1, .int (i32 (ch)))], [], rV c0 c1 G A T) _
  have hF0 : Fr [10, 11, 12, 13, 14, 15, 16, 17, 18, 31] [15, 16, 17, 18, 19, 20, 21, 22, 24, 28] G A G A := Fr_rf
  have hP0 : Pf nd A A := Pf_rf
  have b_ln : (0 : Int) ≤ ln ∧ ln ≤ 3000 := e_ln ▸ hW.1 9
  have b_le : (0 : Int) ≤ le ∧ le ≤ 3000 := e_le ▸ hW.2 4 _
  have b_at0 : (0 : Int) ≤ at0 ∧ at0 ≤ 3002 := e_at0 ▸ hW.1 10
  have b_fk : (0 : Int) ≤ fk ∧ fk ≤ 6 := e_fk ▸ hW.1 16
  have b_op0 : (-2147483648 : Int) ≤ op0 ∧ op0 ≤ 2147483647 := e_op0 ▸ hW.1 15
  have b_nd : (0 : Int) ≤ nd ∧ nd ≤ 6999 := e_nd ▸ hW.1 31
  have z_tk0 := tz_f tk0
  have b_tk0 : (0 : Int) ≤ tk0 ∧ tk0 ≤ 5 := e_tk0 ▸ hW.1 11
  have b_sy : (0 : Int) ≤ sy ∧ sy ≤ 202 := e_sy ▸ hW.1 19
  refine jx_ld (pc' := 1) (l' := [(0, .ref 66), (1, .int (i32 (ch)))]) (st' := [.ref 66]) rfl (jl_aloadn rfl) ?_
  refine jx_vr (pc' := 4) (as := []) (st := []) rfl rfl rfl rfl ⟨rfl, rfl, Nat.le_of_ble_eq_true rfl⟩ rfl rfl (c_bad (dd := d) (hd := by omega) (hW := hW)  (fk := fk) (e_fk := show G 16 = fk from (e_fk))    ) (fun o V' hq => ?_)
  obtain ⟨r1, rfl, rfl, b2, q3⟩ := hq
  refine .inr ⟨_, rfl, ?_⟩
  rcases q3 with ⟨rfl, a4⟩ | ⟨rfl, a5⟩
  · have _q : True := trivial
    refine jx_if_eq (pc' := 7) (tg := 9) rfl rfl rfl (by decide) (by decide) (fun h6 => ?_) (fun h6 => ?_)
    · have _q := h6
      exact absurd h6 (by omega)
    · have _q := h6
      refine jx_ar (pc' := 8) (st' := [.int (i32 (0))]) rfl rfl rfl rfl ?_
      refine jx_rt (v := some (.int (i32 (0)))) rfl rfl rfl rfl rfl rfl ?_
      have z7 := tz_f (tk0)
      exact ⟨_, _, _, at0, fk, op0, nd, tk0, ec, rfl, rfl, hW, hF0, hP0, by omega, (e_at0), (e_fk), (e_op0), (e_nd), (e_tk0), e_ec, by omega, by omega, by omega, by omega, by omega, by omega, by first | exact Or.inl (⟨by omega, by omega, by omega, by omega, by omega, by omega⟩)⟩
  · have _q : True := trivial
    refine jx_if_eq (pc' := 7) (tg := 9) rfl rfl rfl (by decide) (by decide) (fun h8 => ?_) (fun h8 => ?_)
    · have _q := h8
      refine jx_ld (pc' := 10) (l' := [(0, .ref 66), (1, .int (i32 (ch)))]) (st' := [.ref 66]) rfl (jl_aloadn rfl) ?_
      have z9 := tz_f (tk0)
      refine jr_get (pc' := 13) (i := 11) (v := .int (i32 (tk0))) rfl rfl (by decide) (rFv_eq (by decide) (show G 11 = tk0 from (e_tk0))) rfl ?_
      refine jx_ar (pc' := 14) (st' := [.int (i32 (1)), .int (i32 (tk0))]) rfl rfl rfl rfl ?_
      refine jx_icmp_eq (pc' := 17) (tg := 28) rfl rfl rfl (Int.le_trans (by decide : (-2147483648 : Int) ≤ 0) b_tk0.1) (Int.le_trans b_tk0.2 (by decide : (5 : Int) ≤ 2147483647)) (by decide) (by decide) (fun h10 => ?_) (fun h10 => ?_)
      · have _q := h10
        refine jx_ld (pc' := 29) (l' := [(0, .ref 66), (1, .int (i32 (ch)))]) (st' := [.ref 66]) rfl (jl_aloadn rfl) ?_
        have b11 : (-3000 : Int) ≤ G 12 ∧ G 12 ≤ 3002 := hW.1 12
        refine jr_get (pc' := 32) (i := 12) (v := .int (i32 (G 12))) rfl rfl (by decide) rfl rfl ?_
        refine jx_ld (pc' := 33) (l' := jSto1 [(0, .ref 66), (1, .int (i32 (ch)))] 2 (.int (i32 (G 12)))) (st' := []) rfl rfl ?_
        obtain ⟨L12, eL12⟩ : ∃ q, q = jSto1 [(0, .ref 66), (1, .int (i32 (ch)))] 2 (.int (i32 (G 12))) := ⟨_, rfl⟩
        rw [← eL12]
        have gL12_0 : jGet L12 0 = some (.ref 66) := eL12 ▸ jg_ne (by decide) (rfl : jGet [(0, .ref 66), (1, .int (i32 (ch)))] 0 = some (.ref 66)) rfl
        have gL12_1 : jGet L12 1 = some (.int (i32 (ch))) := eL12 ▸ jg_ne (by decide) (rfl : jGet [(0, .ref 66), (1, .int (i32 (ch)))] 1 = some (.int (i32 (ch)))) rfl
        have gL12_2 : jGet L12 2 = some (.int (i32 (G 12))) := eL12 ▸ jg_eq
        refine jx_ld (pc' := 34) (l' := L12) (st' := [.ref 66]) rfl (jl_aloadn gL12_0) ?_
        refine jx_vr (pc' := 37) (as := []) (st := []) rfl rfl rfl rfl ⟨rfl, rfl, Nat.le_of_ble_eq_true rfl⟩ rfl rfl (c_lookUp (dd := d) (hd := by omega) (hW := hW)  (fk := fk) (e_fk := show G 16 = fk from (e_fk)) (i_SV := (SV_ext (rfl) (rfl) i_SV))   ) (fun o V' hq => ?_)
        obtain ⟨G13, A14, r15, fk2_16, rfl, rfl, hW17, hF18, b19, e20, q21⟩ := hq
        have hF22 := Fr_tr hF0 hF18 (Fr_sub (by decide)) (Fr_sub (by decide))
        have hP23 := Pf_f hP0 hF18 (by decide)
        have ec24 : ecn A14 (G13 31) = ec := (ecn_f (hF18.2 15 rfl) (hF18.1 31 rfl)).trans e_ec
        have bfk2_16 : (0 : Int) ≤ fk2_16 ∧ fk2_16 ≤ 6 := e20 ▸ hW17.1 16
        refine .inr ⟨_, rfl, ?_⟩
        rcases q21 with ⟨a25, a26⟩ | ⟨a27, a28, a29, a30⟩
        · have _q : True := trivial
          refine jx_ld (pc' := 38) (l' := jSto1 L12 3 (.int (i32 (r15)))) (st' := []) rfl rfl ?_
          obtain ⟨L31, eL31⟩ : ∃ q, q = jSto1 L12 3 (.int (i32 (r15))) := ⟨_, rfl⟩
          rw [← eL31]
          have gL31_0 : jGet L31 0 = some (.ref 66) := eL31 ▸ jg_ne (by decide) gL12_0 rfl
          have gL31_1 : jGet L31 1 = some (.int (i32 (ch))) := eL31 ▸ jg_ne (by decide) gL12_1 rfl
          have gL31_2 : jGet L31 2 = some (.int (i32 (G 12))) := eL31 ▸ jg_ne (by decide) gL12_2 rfl
          have gL31_3 : jGet L31 3 = some (.int (i32 (r15))) := eL31 ▸ jg_eq
          refine jx_ld (pc' := 39) (l' := L31) (st' := [.ref 66]) rfl (jl_aloadn gL31_0) ?_
          refine jx_vr (pc' := 42) (as := []) (st := []) rfl rfl rfl rfl ⟨rfl, rfl, Nat.le_of_ble_eq_true rfl⟩ rfl rfl (c_bad (dd := d) (hd := by omega) (hW := hW17)  (fk := fk2_16) (e_fk := show G13 16 = fk2_16 from (e20))    ) (fun o V' hq => ?_)
          obtain ⟨r32, rfl, rfl, b33, q34⟩ := hq
          refine .inr ⟨_, rfl, ?_⟩
          rcases q34 with ⟨rfl, a35⟩ | ⟨rfl, a36⟩
          · have _q : True := trivial
            refine jx_if_eq (pc' := 45) (tg := 47) rfl rfl rfl (by decide) (by decide) (fun h37 => ?_) (fun h37 => ?_)
            · have _q := h37
              exact absurd h37 (by omega)
            · have _q := h37
              refine jx_ar (pc' := 46) (st' := [.int (i32 (0))]) rfl rfl rfl rfl ?_
              refine jx_rt (v := some (.int (i32 (0)))) rfl rfl rfl rfl rfl rfl ?_
              have z38 := tz_f (tk0)
              exact ⟨_, _, _, at0, fk2_16, op0, nd, tk0, ec, rfl, rfl, hW17, hF22, hP23, by omega, ((hF18.1 10 rfl).trans (e_at0)), (e20), ((hF18.1 15 rfl).trans (e_op0)), ((hF18.1 31 rfl).trans (e_nd)), ((hF18.1 11 rfl).trans (e_tk0)), ec24, by omega, by omega, by omega, by omega, by omega, by omega, by first | exact Or.inr (Or.inl (⟨by omega, by omega, by omega⟩))⟩
          · have _q : True := trivial
            exfalso
            omega
        · have _q : True := trivial
          refine jx_ld (pc' := 38) (l' := jSto1 L12 3 (.int (i32 (r15)))) (st' := []) rfl rfl ?_
          obtain ⟨L39, eL39⟩ : ∃ q, q = jSto1 L12 3 (.int (i32 (r15))) := ⟨_, rfl⟩
          rw [← eL39]
          have gL39_0 : jGet L39 0 = some (.ref 66) := eL39 ▸ jg_ne (by decide) gL12_0 rfl
          have gL39_1 : jGet L39 1 = some (.int (i32 (ch))) := eL39 ▸ jg_ne (by decide) gL12_1 rfl
          have gL39_2 : jGet L39 2 = some (.int (i32 (G 12))) := eL39 ▸ jg_ne (by decide) gL12_2 rfl
          have gL39_3 : jGet L39 3 = some (.int (i32 (r15))) := eL39 ▸ jg_eq
          refine jx_ld (pc' := 39) (l' := L39) (st' := [.ref 66]) rfl (jl_aloadn gL39_0) ?_
          refine jx_vr (pc' := 42) (as := []) (st := []) rfl rfl rfl rfl ⟨rfl, rfl, Nat.le_of_ble_eq_true rfl⟩ rfl rfl (c_bad (dd := d) (hd := by omega) (hW := hW17)  (fk := fk2_16) (e_fk := show G13 16 = fk2_16 from (e20))    ) (fun o V' hq => ?_)
          obtain ⟨r40, rfl, rfl, b41, q42⟩ := hq
          refine .inr ⟨_, rfl, ?_⟩
          rcases q42 with ⟨rfl, a43⟩ | ⟨rfl, a44⟩
          · have _q : True := trivial
            exfalso
            omega
          · have _q : True := trivial
            refine jx_if_eq (pc' := 45) (tg := 47) rfl rfl rfl (by decide) (by decide) (fun h45 => ?_) (fun h45 => ?_)
            · have _q := h45
              refine jx_ld (pc' := 48) (l' := L39) (st' := [.ref 66]) rfl (jl_aloadn gL39_0) ?_
              refine jx_vr (pc' := 51) (as := []) (st := []) rfl rfl rfl rfl ⟨rfl, rfl, Nat.le_of_ble_eq_true rfl⟩ rfl rfl (c_next (dd := d) (hd := by omega) (hW := hW17)  (ln := ln) (e_ln := show G13 9 = ln from ((hF18.1 9 rfl).trans (e_ln))) (le := le) (e_le := show A14 4 (ln).toNat = le from (congrFun (hF18.2 4 rfl) _).trans (e_le)) (at0 := at0) (e_at0 := show G13 10 = at0 from ((hF18.1 10 rfl).trans (e_at0)))    (p_0 := by omega)) (fun o V' hq => ?_)
              obtain ⟨G46, A47, at2_48, tk2_49, rfl, rfl, hW50, hF51, e52, e53, p54, p55, p56, -⟩ := hq
              have hF58 := Fr_tr hF22 hF51 (Fr_sub (by decide)) (Fr_sub (by decide))
              have hP59 := Pf_f hP23 hF51 (by decide)
              have ec60 : ecn A47 (G46 31) = ec := (ecn_f (hF51.2 15 rfl) (hF51.1 31 rfl)).trans ec24
              have bat2_48 : (0 : Int) ≤ at2_48 ∧ at2_48 ≤ 3002 := e52 ▸ hW50.1 10
              have ztk2_49 := tz_b tk2_49
              have btk2_49 : (0 : Int) ≤ tk2_49 ∧ tk2_49 ≤ 5 := e53 ▸ hW50.1 11
              refine .inl ⟨rfl, ?_⟩
              have pz61 : at0 + tz tk2_49 ≤ at2_48 := by omega
              refine jx_ld (pc' := 52) (l' := L39) (st' := [.ref 66]) rfl (jl_aloadn gL39_0) ?_
              refine jx_ld (pc' := 53) (l' := L39) (st' := [.int (i32 (r15)), .ref 66]) rfl (jl_iloadn gL39_3) ?_
              refine jx_ld (pc' := 54) (l' := L39) (st' := [.int (i32 (G 12)), .int (i32 (r15)), .ref 66]) rfl (jl_iloadn gL39_2) ?_
              refine jx_ld (pc' := 55) (l' := L39) (st' := [.int (i32 (ch)), .int (i32 (G 12)), .int (i32 (r15)), .ref 66]) rfl (jl_iloadn gL39_1) ?_
              refine jx_vr (pc' := 58) (as := [.int (i32 (r15)), .int (i32 (G 12)), .int (i32 (ch))]) (st := []) rfl rfl rfl rfl ⟨rfl, rfl, Nat.le_of_ble_eq_true rfl⟩ rfl rfl (c_readBehind_w (dd := d) (hd := by omega) (hW := hW50) (s := r15) (place := G 12) (ch := ch) (ln := ln) (e_ln := show G46 9 = ln from ((hF51.1 9 rfl).trans ((hF18.1 9 rfl).trans (e_ln)))) (le := le) (e_le := show A47 4 (ln).toNat = le from (congrFun ((hF51.2 4 rfl).trans (hF18.2 4 rfl)) _).trans (e_le)) (at0 := at2_48) (e_at0 := show G46 10 = at2_48 from (e52)) (fk := fk2_16) (e_fk := show G46 16 = fk2_16 from ((hF51.1 16 rfl).trans (e20))) (op0 := op0) (e_op0 := show G46 15 = op0 from ((hF51.1 15 rfl).trans ((hF18.1 15 rfl).trans (e_op0)))) (nd := nd) (e_nd := show G46 31 = nd from ((hF51.1 31 rfl).trans ((hF18.1 31 rfl).trans (e_nd)))) (tk0 := tk2_49) (e_tk0 := show G46 11 = tk2_49 from (e53)) (ec := ec) (e_ec := show ecn A47 (G46 31) = ec from ec60) (sy := sy) (e_sy := show G46 19 = sy from ((hF51.1 19 rfl).trans ((hF18.1 19 rfl).trans (e_sy)))) (i_SV := (SV_ext (((hF51.1 29 rfl).trans (hF18.1 29 rfl))) (((hF51.2 14 rfl).trans (hF18.2 14 rfl))) i_SV)) (h_s := ⟨(Int.le_trans (by decide : (-2147483648 : Int) ≤ -2147483648) b19.1), (Int.le_trans b19.2 (by decide : (2147483647 : Int) ≤ 2147483647))⟩) (h_place := ⟨(Int.le_trans (by decide : (-2147483648 : Int) ≤ -3000) b11.1), (Int.le_trans b11.2 (by decide : (3002 : Int) ≤ 2147483647))⟩) (h_ch := ⟨(Int.le_trans (by decide : (0 : Int) ≤ 0) h_ch.1), (Int.le_trans h_ch.2 (by decide : (1 : Int) ≤ 1))⟩)  (p_0 := by omega) (p_1 := by omega) (p_2 := by omega) (p_3 := by omega) (p_4 := by omega) (p_5 := by omega) (p_6 := by omega) (p_7 := by omega) (p_8 := by omega) (p_9 := a30)) (fun o V' hq => ?_)
              obtain ⟨G62, A63, r64, at2_65, fk2_66, op2_67, nd2_68, tk2_69, ec2_70, rfl, rfl, hW71, hF72, hQ73, b74, e75, e76, e77, e78, e79, e80, p81, p82, p83, p84, p85, p86, q87⟩ := hq
              have hF88 := Fr_tr hF58 hF72 (Fr_sub (by decide)) (Fr_sub (by decide))
              have hP89 := Pf_tr hP59 hQ73 (by omega)
              have bat2_65 : (0 : Int) ≤ at2_65 ∧ at2_65 ≤ 3002 := e75 ▸ hW71.1 10
              have bfk2_66 : (0 : Int) ≤ fk2_66 ∧ fk2_66 ≤ 6 := e76 ▸ hW71.1 16
              have bop2_67 : (-2147483648 : Int) ≤ op2_67 ∧ op2_67 ≤ 2147483647 := e77 ▸ hW71.1 15
              have bnd2_68 : (0 : Int) ≤ nd2_68 ∧ nd2_68 ≤ 6999 := e78 ▸ hW71.1 31
              have ztk2_69 := tz_b tk2_69
              have btk2_69 : (0 : Int) ≤ tk2_69 ∧ tk2_69 ≤ 5 := e79 ▸ hW71.1 11
              refine .inr ⟨_, rfl, ?_⟩
              rcases q87 with ⟨a90, a91, a92⟩ | ⟨a93, a94, a95, a96, a97, a98⟩
              · have _q : True := trivial
                refine jx_rt (v := some (.int (i32 (r64)))) rfl rfl rfl rfl rfl rfl ?_
                have z99 := tz_f (tk2_69)
                exact ⟨_, _, _, at2_65, fk2_66, op2_67, nd2_68, tk2_69, ec2_70, rfl, rfl, hW71, hF88, hP89, by omega, (e75), (e76), (e77), (e78), (e79), e80, by omega, by omega, by omega, by omega, by omega, by omega, by first | exact Or.inr (Or.inl (⟨by omega, by omega, by omega⟩))⟩
              · have _q : True := trivial
                refine jx_rt (v := some (.int (i32 (r64)))) rfl rfl rfl rfl rfl rfl ?_
                have z100 := tz_f (tk2_69)
                exact ⟨_, _, _, at2_65, fk2_66, op2_67, nd2_68, tk2_69, ec2_70, rfl, rfl, hW71, hF88, hP89, by omega, (e75), (e76), (e77), (e78), (e79), e80, by omega, by omega, by omega, by omega, by omega, by omega, by first | exact Or.inr (Or.inr ((⟨by omega, by omega, by omega, a96, by omega, a98, by omega⟩)))⟩
            · have _q := h45
              exact absurd h45 (by omega)
      · have _q := h10
        refine jx_ld (pc' := 18) (l' := [(0, .ref 66), (1, .int (i32 (ch)))]) (st' := [.ref 66]) rfl (jl_aloadn rfl) ?_
        refine jx_ar (pc' := 19) (st' := [.int (i32 (1)), .ref 66]) rfl rfl rfl rfl ?_
        refine jx_ld (pc' := 20) (l' := [(0, .ref 66), (1, .int (i32 (ch)))]) (st' := [.ref 66, .int (i32 (1)), .ref 66]) rfl (jl_aloadn rfl) ?_
        have b101 : (-3000 : Int) ≤ G 12 ∧ G 12 ≤ 3002 := hW.1 12
        refine jr_get (pc' := 23) (i := 12) (v := .int (i32 (G 12))) rfl rfl (by decide) rfl rfl ?_
        refine jx_vr (pc' := 26) (as := [.int (i32 (1)), .int (i32 (G 12))]) (st := []) rfl rfl rfl rfl ⟨rfl, rfl, Nat.le_of_ble_eq_true rfl⟩ rfl rfl (c_fail (dd := d) (hd := by omega) (hW := hW) (kind := 1) (place := G 12) (fk := fk) (e_fk := show G 16 = fk from (e_fk))  (h_kind := ⟨(by decide), (by decide)⟩) (h_place := ⟨(Int.le_trans (by decide : (-2147483648 : Int) ≤ -3000) b101.1), (Int.le_trans b101.2 (by decide : (3002 : Int) ≤ 2147483647))⟩)  (p_0 := by omega) (p_1 := by omega)) (fun o V' hq => ?_)
        obtain ⟨G102, A103, fk2_104, rfl, rfl, hW105, hF106, e107, p108, -⟩ := hq
        have hF110 := Fr_tr hF0 hF106 (Fr_sub (by decide)) (Fr_sub (by decide))
        have hP111 := Pf_f hP0 hF106 (by decide)
        have ec112 : ecn A103 (G102 31) = ec := (ecn_f (hF106.2 15 rfl) (hF106.1 31 rfl)).trans e_ec
        have bfk2_104 : (0 : Int) ≤ fk2_104 ∧ fk2_104 ≤ 6 := e107 ▸ hW105.1 16
        refine .inl ⟨rfl, ?_⟩
        refine jx_ar (pc' := 27) (st' := [.int (i32 (0))]) rfl rfl rfl rfl ?_
        refine jx_rt (v := some (.int (i32 (0)))) rfl rfl rfl rfl rfl rfl ?_
        have z113 := tz_f (tk0)
        exact ⟨_, _, _, at0, fk2_104, op0, nd, tk0, ec, rfl, rfl, hW105, hF110, hP111, by omega, ((hF106.1 10 rfl).trans (e_at0)), (e107), ((hF106.1 15 rfl).trans (e_op0)), ((hF106.1 31 rfl).trans (e_nd)), ((hF106.1 11 rfl).trans (e_tk0)), ec112, by omega, by omega, by omega, by omega, by omega, by omega, by first | exact Or.inr (Or.inl (⟨by omega, by omega, by omega⟩))⟩
    · have _q := h8
      exact absurd h8 (by omega)
