set_option maxRecDepth 20000 in
set_option maxHeartbeats 4000000 in
theorem c_readBehind {X : jX} {dd : Nat} {c0 c1 : jC} {G : Nat → Int} {A : Nat → Nat → Int} {T : jH} {s place ch : Int} {ln le at0 fk op0 nd tk0 : Int} (hd : 67 ≤ dd) (hW : Wk G A) (e_ln : G 9 = ln) (e_le : A 4 (ln).toNat = le) (e_at0 : G 10 = at0) (e_fk : G 16 = fk) (e_op0 : G 15 = op0) (e_nd : G 31 = nd) (e_tk0 : G 11 = tk0) (h_s : (-2147483648 : Int) ≤ s ∧ s ≤ 2147483647) (h_place : (-2147483648 : Int) ≤ place ∧ place ≤ 2147483647) (h_ch : (0 : Int) ≤ ch ∧ ch ≤ 1) (p_0 : 0 ≤ op0) (p_1 : op0 ≤ 9) (p_2 : op0 ≤ 8 ∨ 1 ≤ fk) (p_3 : nd ≤ 2 * at0 - tz tk0 + 50) (p_4 : at0 ≤ le) (p_5 : op0 ≤ 8) (p_6 : fk = 0) (p_7 : 0 ≤ s ∧ s ≤ 201) (p_8 : -3000 ≤ place ∧ place ≤ 3002) : wk X dd 291 [.ref 66, .int (i32 s), .int (i32 place), .int (i32 ch)] (rV c0 c1 G A T) (fun o V' => ∃ (G' : Nat → Int) (A' : Nat → Nat → Int) (r : Int) (at2 : Int) (fk2 : Int) (op2 : Int) (nd2 : Int) (tk2 : Int), V' = rV c0 c1 G' A' T ∧ o = .inl (some (.int (i32 r))) ∧ Wk G' A' ∧ Fr [10, 11, 12, 13, 14, 15, 16, 17, 18, 31] [15, 16, 17, 18, 19, 20, 21, 22, 24, 28] G A G' A' ∧ Pf nd A A' ∧ ((-2147483648 : Int) ≤ r ∧ r ≤ 2147483647) ∧ G' 10 = at2 ∧ G' 16 = fk2 ∧ G' 15 = op2 ∧ G' 31 = nd2 ∧ G' 11 = tk2 ∧ (at0 ≤ at2) ∧ (at2 ≤ le) ∧ (nd ≤ nd2) ∧ (op2 = op0) ∧ (0 ≤ r) ∧ (r ≤ nd2) ∧ (((fk = 0) ∧ (1 ≤ fk2) ∧ (nd2 - nd ≤ (2 * at2 - tz tk2) - (2 * at0 - tz tk0) + 2)) ∨ ((fk = 0) ∧ (fk2 = 0) ∧ (nd2 - nd ≤ (2 * at2 - tz tk2) - (2 * at0 - tz tk0) + 1)))) := by
  obtain ⟨d, rfl⟩ : ∃ d, dd = d + 1 := ⟨dd - 1, by omega⟩
  refine wk_of (e := jm291) rfl (Nat.le_of_ble_eq_true rfl) ?_
  show wj X d jm291 (0, [(0, .ref 66), (1, .int (i32 (s))), (2, .int (i32 (place))), (3, .int (i32 (ch)))], [], rV c0 c1 G A T) _
  have hF0 : Fr [10, 11, 12, 13, 14, 15, 16, 17, 18, 31] [15, 16, 17, 18, 19, 20, 21, 22, 24, 28] G A G A := Fr_rf
  have hP0 : Pf nd A A := Pf_rf
  have b_ln : (0 : Int) ≤ ln ∧ ln ≤ 3000 := e_ln ▸ hW.1 9
  have b_le : (0 : Int) ≤ le ∧ le ≤ 3000 := e_le ▸ hW.2 4 _
  have b_at0 : (0 : Int) ≤ at0 ∧ at0 ≤ 3002 := e_at0 ▸ hW.1 10
  have b_fk : (0 : Int) ≤ fk ∧ fk ≤ 6 := e_fk ▸ hW.1 16
  have b_op0 : (-2147483648 : Int) ≤ op0 ∧ op0 ≤ 2147483647 := e_op0 ▸ hW.1 15
  have b_nd : (0 : Int) ≤ nd ∧ nd ≤ 6999 := e_nd ▸ hW.1 31
  have z_tk0 := tz_f tk0
  have b_tk0 : (0 : Int) ≤ tk0 ∧ tk0 ≤ 5 := e_tk0 ▸ hW.1 11
  refine jx_ld (pc' := 1) (l' := [(0, .ref 66), (1, .int (i32 (s))), (2, .int (i32 (place))), (3, .int (i32 (ch)))]) (st' := [.ref 66]) rfl (jl_aloadn rfl) ?_
  refine jr_get (pc' := 4) (i := 21) (v := .ref 74) rfl rfl (by decide) rfl rfl ?_
  refine jx_ld (pc' := 5) (l' := [(0, .ref 66), (1, .int (i32 (s))), (2, .int (i32 (place))), (3, .int (i32 (ch)))]) (st' := [.int (i32 (s)), .ref 74]) rfl (jl_iloadn rfl) ?_
  have b1 : (0 : Int) ≤ A 7 (s).toNat ∧ A 7 (s).toNat ≤ 14 := hW.2 7 _
  refine jr_ldv (pc' := 6) (i := 7) (m := 260) (z := s) (y := A 7 (s).toNat) rfl (by decide) rfl (by decide) (by omega) (by omega) rfl (show A 7 (s).toNat = A 7 (s).toNat from rfl) ?_
  refine jx_ld (pc' := 8) (l' := jSto1 [(0, .ref 66), (1, .int (i32 (s))), (2, .int (i32 (place))), (3, .int (i32 (ch)))] 4 (.int (i32 (A 7 (s).toNat)))) (st' := []) rfl rfl ?_
  obtain ⟨L2, eL2⟩ : ∃ q, q = jSto1 [(0, .ref 66), (1, .int (i32 (s))), (2, .int (i32 (place))), (3, .int (i32 (ch)))] 4 (.int (i32 (A 7 (s).toNat))) := ⟨_, rfl⟩
  rw [← eL2]
  have gL2_0 : jGet L2 0 = some (.ref 66) := eL2 ▸ jg_ne (by decide) (rfl : jGet [(0, .ref 66), (1, .int (i32 (s))), (2, .int (i32 (place))), (3, .int (i32 (ch)))] 0 = some (.ref 66)) rfl
  have gL2_1 : jGet L2 1 = some (.int (i32 (s))) := eL2 ▸ jg_ne (by decide) (rfl : jGet [(0, .ref 66), (1, .int (i32 (s))), (2, .int (i32 (place))), (3, .int (i32 (ch)))] 1 = some (.int (i32 (s)))) rfl
  have gL2_2 : jGet L2 2 = some (.int (i32 (place))) := eL2 ▸ jg_ne (by decide) (rfl : jGet [(0, .ref 66), (1, .int (i32 (s))), (2, .int (i32 (place))), (3, .int (i32 (ch)))] 2 = some (.int (i32 (place)))) rfl
  have gL2_3 : jGet L2 3 = some (.int (i32 (ch))) := eL2 ▸ jg_ne (by decide) (rfl : jGet [(0, .ref 66), (1, .int (i32 (s))), (2, .int (i32 (place))), (3, .int (i32 (ch)))] 3 = some (.int (i32 (ch)))) rfl
  have gL2_4 : jGet L2 4 = some (.int (i32 (A 7 (s).toNat))) := eL2 ▸ jg_eq
  refine jx_ld (pc' := 9) (l' := L2) (st' := [.ref 66]) rfl (jl_aloadn gL2_0) ?_
  refine jx_ar (pc' := 11) (st' := [.int (i32 (91)), .ref 66]) rfl rfl rfl rfl ?_
  have b3 : (-2147483648 : Int) ≤ G 13 ∧ G 13 ≤ 2147483647 := hW.1 13
  refine jx_vr (pc' := 14) (as := [.int (i32 (91))]) (st := []) rfl rfl rfl rfl ⟨rfl, rfl, Nat.le_of_ble_eq_true rfl⟩ rfl rfl (c_is (dd := d) (hd := by omega) (hW := hW) (k := 91) (tk := tk0) (e_tk := show G 11 = tk0 from (e_tk0)) (tn := G 13) (e_tn := show G 13 = G 13 from rfl)  (h_k := ⟨(by decide), (by decide)⟩)  ) (fun o V' hq => ?_)
  obtain ⟨r4, rfl, rfl, b5, q6⟩ := hq
  refine .inr ⟨_, rfl, ?_⟩
  rcases q6 with ⟨rfl, a7, a8, a9⟩ | rfl
  · have _q : True := trivial
    refine jx_if_eq (pc' := 17) (tg := 63) rfl rfl rfl (by decide) (by decide) (fun h10 => ?_) (fun h10 => ?_)
    · have _q := h10
      exact absurd h10 (by omega)
    · have _q := h10
      refine jx_ld (pc' := 18) (l' := L2) (st' := [.int (i32 (ch))]) rfl (jl_iloadn gL2_3) ?_
      refine jx_if_eq (pc' := 21) (tg := 30) rfl rfl rfl (Int.le_trans (by decide : (-2147483648 : Int) ≤ 0) h_ch.1) (Int.le_trans h_ch.2 (by decide : (1 : Int) ≤ 2147483647)) (fun h11 => ?_) (fun h11 => ?_)
      · have _q := h11
        refine jx_ld (pc' := 32) (l' := L2) (st' := [.int (i32 (A 7 (s).toNat))]) rfl (jl_iload gL2_4) ?_
        refine jx_st (pc' := 35) (as := [.int (i32 (A 7 (s).toNat))]) (st := []) rfl rfl ⟨rfl, Nat.le_of_ble_eq_true rfl⟩ rfl rfl rfl (c_isArray (dd := d) (hd := by omega) (k := A 7 (s).toNat)   (h_k := ⟨(Int.le_trans (by decide : (-2147483648 : Int) ≤ 0) b1.1), (Int.le_trans b1.2 (by decide : (14 : Int) ≤ 2147483647))⟩)  ) (fun o V' hq => ?_)
        obtain ⟨r12, rfl, rfl, b13, q14⟩ := hq
        refine .inr ⟨_, rfl, ?_⟩
        rcases q14 with rfl | rfl
        · have _q : True := trivial
          refine jx_if_ne (pc' := 38) (tg := 46) rfl rfl rfl (by decide) (by decide) (fun h15 => ?_) (fun h15 => ?_)
          · have _q := h15
            refine jx_ld (pc' := 47) (l' := L2) (st' := [.ref 66]) rfl (jl_aloadn gL2_0) ?_
            refine jx_vr (pc' := 50) (as := []) (st := []) rfl rfl rfl rfl ⟨rfl, rfl, Nat.le_of_ble_eq_true rfl⟩ rfl rfl (c_readIndex (dd := d) (k := 9) (hE := RE_all X 9) (hd := by omega) (hW := hW)  (ln := ln) (e_ln := show G 9 = ln from (e_ln)) (le := le) (e_le := show A 4 (ln).toNat = le from (e_le)) (at0 := at0) (e_at0 := show G 10 = at0 from (e_at0)) (fk := fk) (e_fk := show G 16 = fk from (e_fk)) (op0 := op0) (e_op0 := show G 15 = op0 from (e_op0)) (nd := nd) (e_nd := show G 31 = nd from (e_nd)) (tk0 := tk0) (e_tk0 := show G 11 = tk0 from (e_tk0))    (p_0 := by omega) (p_1 := by omega) (p_2 := by omega) (p_3 := by omega) (p_4 := by omega) (p_5 := by omega) (p_6 := by omega) (p_7 := by omega) (p_8 := by omega)) (fun o V' hq => ?_)
            obtain ⟨G16, A17, r18, at2_19, fk2_20, op2_21, nd2_22, tk2_23, rfl, rfl, hW24, hF25, hQ26, b27, e28, e29, e30, e31, e32, p33, p34, p35, p36, p37, p38, q39⟩ := hq
            have hF40 := Fr_tr hF0 hF25 (Fr_sub (by decide)) (Fr_sub (by decide))
            have hP41 := Pf_tr hP0 hQ26 (by omega)
            have bat2_19 : (0 : Int) ≤ at2_19 ∧ at2_19 ≤ 3002 := e28 ▸ hW24.1 10
            have bfk2_20 : (0 : Int) ≤ fk2_20 ∧ fk2_20 ≤ 6 := e29 ▸ hW24.1 16
            have bop2_21 : (-2147483648 : Int) ≤ op2_21 ∧ op2_21 ≤ 2147483647 := e30 ▸ hW24.1 15
            have bnd2_22 : (0 : Int) ≤ nd2_22 ∧ nd2_22 ≤ 6999 := e31 ▸ hW24.1 31
            have ztk2_23 := tz_b tk2_23
            have btk2_23 : (0 : Int) ≤ tk2_23 ∧ tk2_23 ≤ 5 := e32 ▸ hW24.1 11
            refine .inr ⟨_, rfl, ?_⟩
            rcases q39 with ⟨a42, a43, a44⟩ | ⟨a45, a46, a47⟩
            · have _q : True := trivial
              refine jx_ld (pc' := 52) (l' := jSto1 L2 5 (.int (i32 (r18)))) (st' := []) rfl rfl ?_
              obtain ⟨L48, eL48⟩ : ∃ q, q = jSto1 L2 5 (.int (i32 (r18))) := ⟨_, rfl⟩
              rw [← eL48]
              have gL48_0 : jGet L48 0 = some (.ref 66) := eL48 ▸ jg_ne (by decide) gL2_0 rfl
              have gL48_1 : jGet L48 1 = some (.int (i32 (s))) := eL48 ▸ jg_ne (by decide) gL2_1 rfl
              have gL48_2 : jGet L48 2 = some (.int (i32 (place))) := eL48 ▸ jg_ne (by decide) gL2_2 rfl
              have gL48_3 : jGet L48 3 = some (.int (i32 (ch))) := eL48 ▸ jg_ne (by decide) gL2_3 rfl
              have gL48_4 : jGet L48 4 = some (.int (i32 (A 7 (s).toNat))) := eL48 ▸ jg_ne (by decide) gL2_4 rfl
              have gL48_5 : jGet L48 5 = some (.int (i32 (r18))) := eL48 ▸ jg_eq
              refine jx_ld (pc' := 53) (l' := L48) (st' := [.ref 66]) rfl (jl_aloadn gL48_0) ?_
              refine jx_ar (pc' := 54) (st' := [.int (i32 (3)), .ref 66]) rfl rfl rfl rfl ?_
              refine jx_ld (pc' := 55) (l' := L48) (st' := [.int (i32 (s)), .int (i32 (3)), .ref 66]) rfl (jl_iloadn gL48_1) ?_
              refine jx_ld (pc' := 57) (l' := L48) (st' := [.int (i32 (r18)), .int (i32 (s)), .int (i32 (3)), .ref 66]) rfl (jl_iload gL48_5) ?_
              refine jx_ar (pc' := 58) (st' := [.int (i32 (0)), .int (i32 (r18)), .int (i32 (s)), .int (i32 (3)), .ref 66]) rfl rfl rfl rfl ?_
              refine jx_ar (pc' := 59) (st' := [.int (i32 (0)), .int (i32 (0)), .int (i32 (r18)), .int (i32 (s)), .int (i32 (3)), .ref 66]) rfl rfl rfl rfl ?_
              refine jx_vr (pc' := 62) (as := [.int (i32 (3)), .int (i32 (s)), .int (i32 (r18)), .int (i32 (0)), .int (i32 (0))]) (st := []) rfl rfl rfl rfl ⟨rfl, rfl, Nat.le_of_ble_eq_true rfl⟩ rfl rfl (c_node (dd := d) (hd := by omega) (hW := hW24) (kind := 3) (a := s) (b := r18) (c := 0) (e := 0) (nd := nd2_22) (e_nd := show G16 31 = nd2_22 from (e31))  (h_kind := ⟨(by decide), (by decide)⟩) (h_a := ⟨(Int.le_trans (by decide : (-2147483648 : Int) ≤ -2147483648) h_s.1), (Int.le_trans h_s.2 (by decide : (2147483647 : Int) ≤ 2147483647))⟩) (h_b := ⟨(Int.le_trans (by decide : (-2147483648 : Int) ≤ -2147483648) b27.1), (Int.le_trans b27.2 (by decide : (2147483647 : Int) ≤ 2147483647))⟩) (h_c := ⟨(by decide), (by decide)⟩) (h_e := ⟨(by decide), (by decide)⟩)  (p_0 := by omega) (p_1 := by omega)) (fun o V' hq => ?_)
              obtain ⟨G49, A50, nd2_51, rfl, rfl, hW52, hF53, hQ54, e55, p56, -⟩ := hq
              have hF58 := Fr_tr hF40 hF53 (Fr_sub (by decide)) (Fr_sub (by decide))
              have hP59 := Pf_tr hP41 hQ54 (by omega)
              have bnd2_51 : (0 : Int) ≤ nd2_51 ∧ nd2_51 ≤ 6999 := e55 ▸ hW52.1 31
              refine .inr ⟨_, rfl, ?_⟩
              refine jx_rt (v := some (.int (i32 (nd2_22)))) rfl rfl rfl rfl rfl rfl ?_
              have z60 := tz_f (tk2_23)
              exact ⟨_, _, _, at2_19, fk2_20, op2_21, nd2_51, tk2_23, rfl, rfl, hW52, hF58, hP59, by omega, ((hF53.1 10 rfl).trans (e28)), ((hF53.1 16 rfl).trans (e29)), ((hF53.1 15 rfl).trans (e30)), (e55), ((hF53.1 11 rfl).trans (e32)), by omega, by omega, by omega, by omega, by omega, by omega, by first | exact Or.inl (⟨by omega, by omega, by omega⟩) | exact Or.inr ((⟨by omega, by omega, by omega⟩))⟩
            · have _q : True := trivial
              refine jx_ld (pc' := 52) (l' := jSto1 L2 5 (.int (i32 (r18)))) (st' := []) rfl rfl ?_
              obtain ⟨L61, eL61⟩ : ∃ q, q = jSto1 L2 5 (.int (i32 (r18))) := ⟨_, rfl⟩
              rw [← eL61]
              have gL61_0 : jGet L61 0 = some (.ref 66) := eL61 ▸ jg_ne (by decide) gL2_0 rfl
              have gL61_1 : jGet L61 1 = some (.int (i32 (s))) := eL61 ▸ jg_ne (by decide) gL2_1 rfl
              have gL61_2 : jGet L61 2 = some (.int (i32 (place))) := eL61 ▸ jg_ne (by decide) gL2_2 rfl
              have gL61_3 : jGet L61 3 = some (.int (i32 (ch))) := eL61 ▸ jg_ne (by decide) gL2_3 rfl
              have gL61_4 : jGet L61 4 = some (.int (i32 (A 7 (s).toNat))) := eL61 ▸ jg_ne (by decide) gL2_4 rfl
              have gL61_5 : jGet L61 5 = some (.int (i32 (r18))) := eL61 ▸ jg_eq
              refine jx_ld (pc' := 53) (l' := L61) (st' := [.ref 66]) rfl (jl_aloadn gL61_0) ?_
              refine jx_ar (pc' := 54) (st' := [.int (i32 (3)), .ref 66]) rfl rfl rfl rfl ?_
              refine jx_ld (pc' := 55) (l' := L61) (st' := [.int (i32 (s)), .int (i32 (3)), .ref 66]) rfl (jl_iloadn gL61_1) ?_
              refine jx_ld (pc' := 57) (l' := L61) (st' := [.int (i32 (r18)), .int (i32 (s)), .int (i32 (3)), .ref 66]) rfl (jl_iload gL61_5) ?_
              refine jx_ar (pc' := 58) (st' := [.int (i32 (0)), .int (i32 (r18)), .int (i32 (s)), .int (i32 (3)), .ref 66]) rfl rfl rfl rfl ?_
              refine jx_ar (pc' := 59) (st' := [.int (i32 (0)), .int (i32 (0)), .int (i32 (r18)), .int (i32 (s)), .int (i32 (3)), .ref 66]) rfl rfl rfl rfl ?_
              refine jx_vr (pc' := 62) (as := [.int (i32 (3)), .int (i32 (s)), .int (i32 (r18)), .int (i32 (0)), .int (i32 (0))]) (st := []) rfl rfl rfl rfl ⟨rfl, rfl, Nat.le_of_ble_eq_true rfl⟩ rfl rfl (c_node (dd := d) (hd := by omega) (hW := hW24) (kind := 3) (a := s) (b := r18) (c := 0) (e := 0) (nd := nd2_22) (e_nd := show G16 31 = nd2_22 from (e31))  (h_kind := ⟨(by decide), (by decide)⟩) (h_a := ⟨(Int.le_trans (by decide : (-2147483648 : Int) ≤ -2147483648) h_s.1), (Int.le_trans h_s.2 (by decide : (2147483647 : Int) ≤ 2147483647))⟩) (h_b := ⟨(Int.le_trans (by decide : (-2147483648 : Int) ≤ -2147483648) b27.1), (Int.le_trans b27.2 (by decide : (2147483647 : Int) ≤ 2147483647))⟩) (h_c := ⟨(by decide), (by decide)⟩) (h_e := ⟨(by decide), (by decide)⟩)  (p_0 := by omega) (p_1 := by omega)) (fun o V' hq => ?_)
              obtain ⟨G62, A63, nd2_64, rfl, rfl, hW65, hF66, hQ67, e68, p69, -⟩ := hq
              have hF71 := Fr_tr hF40 hF66 (Fr_sub (by decide)) (Fr_sub (by decide))
              have hP72 := Pf_tr hP41 hQ67 (by omega)
              have bnd2_64 : (0 : Int) ≤ nd2_64 ∧ nd2_64 ≤ 6999 := e68 ▸ hW65.1 31
              refine .inr ⟨_, rfl, ?_⟩
              refine jx_rt (v := some (.int (i32 (nd2_22)))) rfl rfl rfl rfl rfl rfl ?_
              have z73 := tz_f (tk2_23)
              exact ⟨_, _, _, at2_19, fk2_20, op2_21, nd2_64, tk2_23, rfl, rfl, hW65, hF71, hP72, by omega, ((hF66.1 10 rfl).trans (e28)), ((hF66.1 16 rfl).trans (e29)), ((hF66.1 15 rfl).trans (e30)), (e68), ((hF66.1 11 rfl).trans (e32)), by omega, by omega, by omega, by omega, by omega, by omega, by first | exact Or.inl (⟨by omega, by omega, by omega⟩) | exact Or.inr ((⟨by omega, by omega, by omega⟩))⟩
          · have _q := h15
            exact absurd h15 (by omega)
        · have _q : True := trivial
          refine jx_if_ne (pc' := 38) (tg := 46) rfl rfl rfl (by decide) (by decide) (fun h74 => ?_) (fun h74 => ?_)
          · have _q := h74
            exact absurd h74 (by omega)
          · have _q := h74
            refine jx_ld (pc' := 39) (l' := L2) (st' := [.ref 66]) rfl (jl_aloadn gL2_0) ?_
            refine jx_ar (pc' := 40) (st' := [.int (i32 (4)), .ref 66]) rfl rfl rfl rfl ?_
            refine jx_ld (pc' := 41) (l' := L2) (st' := [.int (i32 (place)), .int (i32 (4)), .ref 66]) rfl (jl_iloadn gL2_2) ?_
            refine jx_vr (pc' := 44) (as := [.int (i32 (4)), .int (i32 (place))]) (st := []) rfl rfl rfl rfl ⟨rfl, rfl, Nat.le_of_ble_eq_true rfl⟩ rfl rfl (c_fail (dd := d) (hd := by omega) (hW := hW) (kind := 4) (place := place) (fk := fk) (e_fk := show G 16 = fk from (e_fk))  (h_kind := ⟨(by decide), (by decide)⟩) (h_place := ⟨(Int.le_trans (by decide : (-2147483648 : Int) ≤ -2147483648) h_place.1), (Int.le_trans h_place.2 (by decide : (2147483647 : Int) ≤ 2147483647))⟩)  (p_0 := by omega) (p_1 := by omega)) (fun o V' hq => ?_)
            obtain ⟨G75, A76, fk2_77, rfl, rfl, hW78, hF79, e80, p81, -⟩ := hq
            have hF83 := Fr_tr hF0 hF79 (Fr_sub (by decide)) (Fr_sub (by decide))
            have hP84 := Pf_f hP0 hF79 (by decide)
            have bfk2_77 : (0 : Int) ≤ fk2_77 ∧ fk2_77 ≤ 6 := e80 ▸ hW78.1 16
            refine .inl ⟨rfl, ?_⟩
            refine jx_ar (pc' := 45) (st' := [.int (i32 (0))]) rfl rfl rfl rfl ?_
            refine jx_rt (v := some (.int (i32 (0)))) rfl rfl rfl rfl rfl rfl ?_
            have z85 := tz_f (tk0)
            exact ⟨_, _, _, at0, fk2_77, op0, nd, tk0, rfl, rfl, hW78, hF83, hP84, by omega, ((hF79.1 10 rfl).trans (e_at0)), (e80), ((hF79.1 15 rfl).trans (e_op0)), ((hF79.1 31 rfl).trans (e_nd)), ((hF79.1 11 rfl).trans (e_tk0)), by omega, by omega, by omega, by omega, by omega, by omega, by first | exact Or.inl (⟨by omega, by omega, by omega⟩) | exact Or.inr ((⟨by omega, by omega, by omega⟩))⟩
      · have _q := h11
        refine jx_ld (pc' := 23) (l' := L2) (st' := [.int (i32 (A 7 (s).toNat))]) rfl (jl_iload gL2_4) ?_
        refine jx_ar (pc' := 24) (st' := [.int (i32 (4)), .int (i32 (A 7 (s).toNat))]) rfl rfl rfl rfl ?_
        refine jx_icmp_eq (pc' := 27) (tg := 46) rfl rfl rfl (Int.le_trans (by decide : (-2147483648 : Int) ≤ 0) b1.1) (Int.le_trans b1.2 (by decide : (14 : Int) ≤ 2147483647)) (by decide) (by decide) (fun h86 => ?_) (fun h86 => ?_)
        · have _q := h86
          refine jx_ld (pc' := 47) (l' := L2) (st' := [.ref 66]) rfl (jl_aloadn gL2_0) ?_
          refine jx_vr (pc' := 50) (as := []) (st := []) rfl rfl rfl rfl ⟨rfl, rfl, Nat.le_of_ble_eq_true rfl⟩ rfl rfl (c_readIndex (dd := d) (k := 9) (hE := RE_all X 9) (hd := by omega) (hW := hW)  (ln := ln) (e_ln := show G 9 = ln from (e_ln)) (le := le) (e_le := show A 4 (ln).toNat = le from (e_le)) (at0 := at0) (e_at0 := show G 10 = at0 from (e_at0)) (fk := fk) (e_fk := show G 16 = fk from (e_fk)) (op0 := op0) (e_op0 := show G 15 = op0 from (e_op0)) (nd := nd) (e_nd := show G 31 = nd from (e_nd)) (tk0 := tk0) (e_tk0 := show G 11 = tk0 from (e_tk0))    (p_0 := by omega) (p_1 := by omega) (p_2 := by omega) (p_3 := by omega) (p_4 := by omega) (p_5 := by omega) (p_6 := by omega) (p_7 := by omega) (p_8 := by omega)) (fun o V' hq => ?_)
          obtain ⟨G87, A88, r89, at2_90, fk2_91, op2_92, nd2_93, tk2_94, rfl, rfl, hW95, hF96, hQ97, b98, e99, e100, e101, e102, e103, p104, p105, p106, p107, p108, p109, q110⟩ := hq
          have hF111 := Fr_tr hF0 hF96 (Fr_sub (by decide)) (Fr_sub (by decide))
          have hP112 := Pf_tr hP0 hQ97 (by omega)
          have bat2_90 : (0 : Int) ≤ at2_90 ∧ at2_90 ≤ 3002 := e99 ▸ hW95.1 10
          have bfk2_91 : (0 : Int) ≤ fk2_91 ∧ fk2_91 ≤ 6 := e100 ▸ hW95.1 16
          have bop2_92 : (-2147483648 : Int) ≤ op2_92 ∧ op2_92 ≤ 2147483647 := e101 ▸ hW95.1 15
          have bnd2_93 : (0 : Int) ≤ nd2_93 ∧ nd2_93 ≤ 6999 := e102 ▸ hW95.1 31
          have ztk2_94 := tz_b tk2_94
          have btk2_94 : (0 : Int) ≤ tk2_94 ∧ tk2_94 ≤ 5 := e103 ▸ hW95.1 11
          refine .inr ⟨_, rfl, ?_⟩
          rcases q110 with ⟨a113, a114, a115⟩ | ⟨a116, a117, a118⟩
          · have _q : True := trivial
            refine jx_ld (pc' := 52) (l' := jSto1 L2 5 (.int (i32 (r89)))) (st' := []) rfl rfl ?_
            obtain ⟨L119, eL119⟩ : ∃ q, q = jSto1 L2 5 (.int (i32 (r89))) := ⟨_, rfl⟩
            rw [← eL119]
            have gL119_0 : jGet L119 0 = some (.ref 66) := eL119 ▸ jg_ne (by decide) gL2_0 rfl
            have gL119_1 : jGet L119 1 = some (.int (i32 (s))) := eL119 ▸ jg_ne (by decide) gL2_1 rfl
            have gL119_2 : jGet L119 2 = some (.int (i32 (place))) := eL119 ▸ jg_ne (by decide) gL2_2 rfl
            have gL119_3 : jGet L119 3 = some (.int (i32 (ch))) := eL119 ▸ jg_ne (by decide) gL2_3 rfl
            have gL119_4 : jGet L119 4 = some (.int (i32 (A 7 (s).toNat))) := eL119 ▸ jg_ne (by decide) gL2_4 rfl
            have gL119_5 : jGet L119 5 = some (.int (i32 (r89))) := eL119 ▸ jg_eq
            refine jx_ld (pc' := 53) (l' := L119) (st' := [.ref 66]) rfl (jl_aloadn gL119_0) ?_
            refine jx_ar (pc' := 54) (st' := [.int (i32 (3)), .ref 66]) rfl rfl rfl rfl ?_
            refine jx_ld (pc' := 55) (l' := L119) (st' := [.int (i32 (s)), .int (i32 (3)), .ref 66]) rfl (jl_iloadn gL119_1) ?_
            refine jx_ld (pc' := 57) (l' := L119) (st' := [.int (i32 (r89)), .int (i32 (s)), .int (i32 (3)), .ref 66]) rfl (jl_iload gL119_5) ?_
            refine jx_ar (pc' := 58) (st' := [.int (i32 (0)), .int (i32 (r89)), .int (i32 (s)), .int (i32 (3)), .ref 66]) rfl rfl rfl rfl ?_
            refine jx_ar (pc' := 59) (st' := [.int (i32 (0)), .int (i32 (0)), .int (i32 (r89)), .int (i32 (s)), .int (i32 (3)), .ref 66]) rfl rfl rfl rfl ?_
            refine jx_vr (pc' := 62) (as := [.int (i32 (3)), .int (i32 (s)), .int (i32 (r89)), .int (i32 (0)), .int (i32 (0))]) (st := []) rfl rfl rfl rfl ⟨rfl, rfl, Nat.le_of_ble_eq_true rfl⟩ rfl rfl (c_node (dd := d) (hd := by omega) (hW := hW95) (kind := 3) (a := s) (b := r89) (c := 0) (e := 0) (nd := nd2_93) (e_nd := show G87 31 = nd2_93 from (e102))  (h_kind := ⟨(by decide), (by decide)⟩) (h_a := ⟨(Int.le_trans (by decide : (-2147483648 : Int) ≤ -2147483648) h_s.1), (Int.le_trans h_s.2 (by decide : (2147483647 : Int) ≤ 2147483647))⟩) (h_b := ⟨(Int.le_trans (by decide : (-2147483648 : Int) ≤ -2147483648) b98.1), (Int.le_trans b98.2 (by decide : (2147483647 : Int) ≤ 2147483647))⟩) (h_c := ⟨(by decide), (by decide)⟩) (h_e := ⟨(by decide), (by decide)⟩)  (p_0 := by omega) (p_1 := by omega)) (fun o V' hq => ?_)
            obtain ⟨G120, A121, nd2_122, rfl, rfl, hW123, hF124, hQ125, e126, p127, -⟩ := hq
            have hF129 := Fr_tr hF111 hF124 (Fr_sub (by decide)) (Fr_sub (by decide))
            have hP130 := Pf_tr hP112 hQ125 (by omega)
            have bnd2_122 : (0 : Int) ≤ nd2_122 ∧ nd2_122 ≤ 6999 := e126 ▸ hW123.1 31
            refine .inr ⟨_, rfl, ?_⟩
            refine jx_rt (v := some (.int (i32 (nd2_93)))) rfl rfl rfl rfl rfl rfl ?_
            have z131 := tz_f (tk2_94)
            exact ⟨_, _, _, at2_90, fk2_91, op2_92, nd2_122, tk2_94, rfl, rfl, hW123, hF129, hP130, by omega, ((hF124.1 10 rfl).trans (e99)), ((hF124.1 16 rfl).trans (e100)), ((hF124.1 15 rfl).trans (e101)), (e126), ((hF124.1 11 rfl).trans (e103)), by omega, by omega, by omega, by omega, by omega, by omega, by first | exact Or.inl (⟨by omega, by omega, by omega⟩) | exact Or.inr ((⟨by omega, by omega, by omega⟩))⟩
          · have _q : True := trivial
            refine jx_ld (pc' := 52) (l' := jSto1 L2 5 (.int (i32 (r89)))) (st' := []) rfl rfl ?_
            obtain ⟨L132, eL132⟩ : ∃ q, q = jSto1 L2 5 (.int (i32 (r89))) := ⟨_, rfl⟩
            rw [← eL132]
            have gL132_0 : jGet L132 0 = some (.ref 66) := eL132 ▸ jg_ne (by decide) gL2_0 rfl
            have gL132_1 : jGet L132 1 = some (.int (i32 (s))) := eL132 ▸ jg_ne (by decide) gL2_1 rfl
            have gL132_2 : jGet L132 2 = some (.int (i32 (place))) := eL132 ▸ jg_ne (by decide) gL2_2 rfl
            have gL132_3 : jGet L132 3 = some (.int (i32 (ch))) := eL132 ▸ jg_ne (by decide) gL2_3 rfl
            have gL132_4 : jGet L132 4 = some (.int (i32 (A 7 (s).toNat))) := eL132 ▸ jg_ne (by decide) gL2_4 rfl
            have gL132_5 : jGet L132 5 = some (.int (i32 (r89))) := eL132 ▸ jg_eq
            refine jx_ld (pc' := 53) (l' := L132) (st' := [.ref 66]) rfl (jl_aloadn gL132_0) ?_
            refine jx_ar (pc' := 54) (st' := [.int (i32 (3)), .ref 66]) rfl rfl rfl rfl ?_
            refine jx_ld (pc' := 55) (l' := L132) (st' := [.int (i32 (s)), .int (i32 (3)), .ref 66]) rfl (jl_iloadn gL132_1) ?_
            refine jx_ld (pc' := 57) (l' := L132) (st' := [.int (i32 (r89)), .int (i32 (s)), .int (i32 (3)), .ref 66]) rfl (jl_iload gL132_5) ?_
            refine jx_ar (pc' := 58) (st' := [.int (i32 (0)), .int (i32 (r89)), .int (i32 (s)), .int (i32 (3)), .ref 66]) rfl rfl rfl rfl ?_
            refine jx_ar (pc' := 59) (st' := [.int (i32 (0)), .int (i32 (0)), .int (i32 (r89)), .int (i32 (s)), .int (i32 (3)), .ref 66]) rfl rfl rfl rfl ?_
            refine jx_vr (pc' := 62) (as := [.int (i32 (3)), .int (i32 (s)), .int (i32 (r89)), .int (i32 (0)), .int (i32 (0))]) (st := []) rfl rfl rfl rfl ⟨rfl, rfl, Nat.le_of_ble_eq_true rfl⟩ rfl rfl (c_node (dd := d) (hd := by omega) (hW := hW95) (kind := 3) (a := s) (b := r89) (c := 0) (e := 0) (nd := nd2_93) (e_nd := show G87 31 = nd2_93 from (e102))  (h_kind := ⟨(by decide), (by decide)⟩) (h_a := ⟨(Int.le_trans (by decide : (-2147483648 : Int) ≤ -2147483648) h_s.1), (Int.le_trans h_s.2 (by decide : (2147483647 : Int) ≤ 2147483647))⟩) (h_b := ⟨(Int.le_trans (by decide : (-2147483648 : Int) ≤ -2147483648) b98.1), (Int.le_trans b98.2 (by decide : (2147483647 : Int) ≤ 2147483647))⟩) (h_c := ⟨(by decide), (by decide)⟩) (h_e := ⟨(by decide), (by decide)⟩)  (p_0 := by omega) (p_1 := by omega)) (fun o V' hq => ?_)
            obtain ⟨G133, A134, nd2_135, rfl, rfl, hW136, hF137, hQ138, e139, p140, -⟩ := hq
            have hF142 := Fr_tr hF111 hF137 (Fr_sub (by decide)) (Fr_sub (by decide))
            have hP143 := Pf_tr hP112 hQ138 (by omega)
            have bnd2_135 : (0 : Int) ≤ nd2_135 ∧ nd2_135 ≤ 6999 := e139 ▸ hW136.1 31
            refine .inr ⟨_, rfl, ?_⟩
            refine jx_rt (v := some (.int (i32 (nd2_93)))) rfl rfl rfl rfl rfl rfl ?_
            have z144 := tz_f (tk2_94)
            exact ⟨_, _, _, at2_90, fk2_91, op2_92, nd2_135, tk2_94, rfl, rfl, hW136, hF142, hP143, by omega, ((hF137.1 10 rfl).trans (e99)), ((hF137.1 16 rfl).trans (e100)), ((hF137.1 15 rfl).trans (e101)), (e139), ((hF137.1 11 rfl).trans (e103)), by omega, by omega, by omega, by omega, by omega, by omega, by first | exact Or.inl (⟨by omega, by omega, by omega⟩) | exact Or.inr ((⟨by omega, by omega, by omega⟩))⟩
        · have _q := h86
          refine jx_go (tg := 38) rfl rfl ?_
          refine jx_ld (pc' := 39) (l' := L2) (st' := [.ref 66]) rfl (jl_aloadn gL2_0) ?_
          refine jx_ar (pc' := 40) (st' := [.int (i32 (4)), .ref 66]) rfl rfl rfl rfl ?_
          refine jx_ld (pc' := 41) (l' := L2) (st' := [.int (i32 (place)), .int (i32 (4)), .ref 66]) rfl (jl_iloadn gL2_2) ?_
          refine jx_vr (pc' := 44) (as := [.int (i32 (4)), .int (i32 (place))]) (st := []) rfl rfl rfl rfl ⟨rfl, rfl, Nat.le_of_ble_eq_true rfl⟩ rfl rfl (c_fail (dd := d) (hd := by omega) (hW := hW) (kind := 4) (place := place) (fk := fk) (e_fk := show G 16 = fk from (e_fk))  (h_kind := ⟨(by decide), (by decide)⟩) (h_place := ⟨(Int.le_trans (by decide : (-2147483648 : Int) ≤ -2147483648) h_place.1), (Int.le_trans h_place.2 (by decide : (2147483647 : Int) ≤ 2147483647))⟩)  (p_0 := by omega) (p_1 := by omega)) (fun o V' hq => ?_)
          obtain ⟨G145, A146, fk2_147, rfl, rfl, hW148, hF149, e150, p151, -⟩ := hq
          have hF153 := Fr_tr hF0 hF149 (Fr_sub (by decide)) (Fr_sub (by decide))
          have hP154 := Pf_f hP0 hF149 (by decide)
          have bfk2_147 : (0 : Int) ≤ fk2_147 ∧ fk2_147 ≤ 6 := e150 ▸ hW148.1 16
          refine .inl ⟨rfl, ?_⟩
          refine jx_ar (pc' := 45) (st' := [.int (i32 (0))]) rfl rfl rfl rfl ?_
          refine jx_rt (v := some (.int (i32 (0)))) rfl rfl rfl rfl rfl rfl ?_
          have z155 := tz_f (tk0)
          exact ⟨_, _, _, at0, fk2_147, op0, nd, tk0, rfl, rfl, hW148, hF153, hP154, by omega, ((hF149.1 10 rfl).trans (e_at0)), (e150), ((hF149.1 15 rfl).trans (e_op0)), ((hF149.1 31 rfl).trans (e_nd)), ((hF149.1 11 rfl).trans (e_tk0)), by omega, by omega, by omega, by omega, by omega, by omega, by first | exact Or.inl (⟨by omega, by omega, by omega⟩) | exact Or.inr ((⟨by omega, by omega, by omega⟩))⟩
  · have _q : True := trivial
    refine jx_if_eq (pc' := 17) (tg := 63) rfl rfl rfl (by decide) (by decide) (fun h156 => ?_) (fun h156 => ?_)
    · have _q := h156
      refine jx_ld (pc' := 64) (l' := L2) (st' := [.int (i32 (ch))]) rfl (jl_iloadn gL2_3) ?_
      refine jx_if_eq (pc' := 67) (tg := 78) rfl rfl rfl (Int.le_trans (by decide : (-2147483648 : Int) ≤ 0) h_ch.1) (Int.le_trans h_ch.2 (by decide : (1 : Int) ≤ 2147483647)) (fun h157 => ?_) (fun h157 => ?_)
      · have _q := h157
        refine jx_ld (pc' := 80) (l' := L2) (st' := [.int (i32 (A 7 (s).toNat))]) rfl (jl_iload gL2_4) ?_
        refine jx_st (pc' := 83) (as := [.int (i32 (A 7 (s).toNat))]) (st := []) rfl rfl ⟨rfl, Nat.le_of_ble_eq_true rfl⟩ rfl rfl rfl (c_isVariable (dd := d) (hd := by omega) (k := A 7 (s).toNat)   (h_k := ⟨(Int.le_trans (by decide : (-2147483648 : Int) ≤ 0) b1.1), (Int.le_trans b1.2 (by decide : (14 : Int) ≤ 2147483647))⟩)  ) (fun o V' hq => ?_)
        obtain ⟨r158, rfl, rfl, b159, q160⟩ := hq
        refine .inr ⟨_, rfl, ?_⟩
        rcases q160 with rfl | rfl
        · have _q : True := trivial
          refine jx_if_ne (pc' := 86) (tg := 94) rfl rfl rfl (by decide) (by decide) (fun h161 => ?_) (fun h161 => ?_)
          · have _q := h161
            refine jx_ld (pc' := 95) (l' := L2) (st' := [.ref 66]) rfl (jl_aloadn gL2_0) ?_
            refine jx_ar (pc' := 96) (st' := [.int (i32 (2)), .ref 66]) rfl rfl rfl rfl ?_
            refine jx_ld (pc' := 97) (l' := L2) (st' := [.int (i32 (s)), .int (i32 (2)), .ref 66]) rfl (jl_iloadn gL2_1) ?_
            refine jx_ar (pc' := 98) (st' := [.int (i32 (0)), .int (i32 (s)), .int (i32 (2)), .ref 66]) rfl rfl rfl rfl ?_
            refine jx_ar (pc' := 99) (st' := [.int (i32 (0)), .int (i32 (0)), .int (i32 (s)), .int (i32 (2)), .ref 66]) rfl rfl rfl rfl ?_
            refine jx_ar (pc' := 100) (st' := [.int (i32 (0)), .int (i32 (0)), .int (i32 (0)), .int (i32 (s)), .int (i32 (2)), .ref 66]) rfl rfl rfl rfl ?_
            refine jx_vr (pc' := 103) (as := [.int (i32 (2)), .int (i32 (s)), .int (i32 (0)), .int (i32 (0)), .int (i32 (0))]) (st := []) rfl rfl rfl rfl ⟨rfl, rfl, Nat.le_of_ble_eq_true rfl⟩ rfl rfl (c_node (dd := d) (hd := by omega) (hW := hW) (kind := 2) (a := s) (b := 0) (c := 0) (e := 0) (nd := nd) (e_nd := show G 31 = nd from (e_nd))  (h_kind := ⟨(by decide), (by decide)⟩) (h_a := ⟨(Int.le_trans (by decide : (-2147483648 : Int) ≤ -2147483648) h_s.1), (Int.le_trans h_s.2 (by decide : (2147483647 : Int) ≤ 2147483647))⟩) (h_b := ⟨(by decide), (by decide)⟩) (h_c := ⟨(by decide), (by decide)⟩) (h_e := ⟨(by decide), (by decide)⟩)  (p_0 := by omega) (p_1 := by omega)) (fun o V' hq => ?_)
            obtain ⟨G162, A163, nd2_164, rfl, rfl, hW165, hF166, hQ167, e168, p169, -⟩ := hq
            have hF171 := Fr_tr hF0 hF166 (Fr_sub (by decide)) (Fr_sub (by decide))
            have hP172 := Pf_tr hP0 hQ167 (by omega)
            have bnd2_164 : (0 : Int) ≤ nd2_164 ∧ nd2_164 ≤ 6999 := e168 ▸ hW165.1 31
            refine .inr ⟨_, rfl, ?_⟩
            refine jx_rt (v := some (.int (i32 (nd)))) rfl rfl rfl rfl rfl rfl ?_
            have z173 := tz_f (tk0)
            exact ⟨_, _, _, at0, fk, op0, nd2_164, tk0, rfl, rfl, hW165, hF171, hP172, by omega, ((hF166.1 10 rfl).trans (e_at0)), ((hF166.1 16 rfl).trans (e_fk)), ((hF166.1 15 rfl).trans (e_op0)), (e168), ((hF166.1 11 rfl).trans (e_tk0)), by omega, by omega, by omega, by omega, by omega, by omega, by first | exact Or.inl (⟨by omega, by omega, by omega⟩) | exact Or.inr ((⟨by omega, by omega, by omega⟩))⟩
          · have _q := h161
            exact absurd h161 (by omega)
        · have _q : True := trivial
          refine jx_if_ne (pc' := 86) (tg := 94) rfl rfl rfl (by decide) (by decide) (fun h174 => ?_) (fun h174 => ?_)
          · have _q := h174
            exact absurd h174 (by omega)
          · have _q := h174
            refine jx_ld (pc' := 87) (l' := L2) (st' := [.ref 66]) rfl (jl_aloadn gL2_0) ?_
            refine jx_ar (pc' := 88) (st' := [.int (i32 (4)), .ref 66]) rfl rfl rfl rfl ?_
            refine jx_ld (pc' := 89) (l' := L2) (st' := [.int (i32 (place)), .int (i32 (4)), .ref 66]) rfl (jl_iloadn gL2_2) ?_
            refine jx_vr (pc' := 92) (as := [.int (i32 (4)), .int (i32 (place))]) (st := []) rfl rfl rfl rfl ⟨rfl, rfl, Nat.le_of_ble_eq_true rfl⟩ rfl rfl (c_fail (dd := d) (hd := by omega) (hW := hW) (kind := 4) (place := place) (fk := fk) (e_fk := show G 16 = fk from (e_fk))  (h_kind := ⟨(by decide), (by decide)⟩) (h_place := ⟨(Int.le_trans (by decide : (-2147483648 : Int) ≤ -2147483648) h_place.1), (Int.le_trans h_place.2 (by decide : (2147483647 : Int) ≤ 2147483647))⟩)  (p_0 := by omega) (p_1 := by omega)) (fun o V' hq => ?_)
            obtain ⟨G175, A176, fk2_177, rfl, rfl, hW178, hF179, e180, p181, -⟩ := hq
            have hF183 := Fr_tr hF0 hF179 (Fr_sub (by decide)) (Fr_sub (by decide))
            have hP184 := Pf_f hP0 hF179 (by decide)
            have bfk2_177 : (0 : Int) ≤ fk2_177 ∧ fk2_177 ≤ 6 := e180 ▸ hW178.1 16
            refine .inl ⟨rfl, ?_⟩
            refine jx_ar (pc' := 93) (st' := [.int (i32 (0))]) rfl rfl rfl rfl ?_
            refine jx_rt (v := some (.int (i32 (0)))) rfl rfl rfl rfl rfl rfl ?_
            have z185 := tz_f (tk0)
            exact ⟨_, _, _, at0, fk2_177, op0, nd, tk0, rfl, rfl, hW178, hF183, hP184, by omega, ((hF179.1 10 rfl).trans (e_at0)), (e180), ((hF179.1 15 rfl).trans (e_op0)), ((hF179.1 31 rfl).trans (e_nd)), ((hF179.1 11 rfl).trans (e_tk0)), by omega, by omega, by omega, by omega, by omega, by omega, by first | exact Or.inl (⟨by omega, by omega, by omega⟩) | exact Or.inr ((⟨by omega, by omega, by omega⟩))⟩
      · have _q := h157
        refine jx_ld (pc' := 69) (l' := L2) (st' := [.int (i32 (A 7 (s).toNat))]) rfl (jl_iload gL2_4) ?_
        refine jx_st (pc' := 72) (as := [.int (i32 (A 7 (s).toNat))]) (st := []) rfl rfl ⟨rfl, Nat.le_of_ble_eq_true rfl⟩ rfl rfl rfl (c_isChannel (dd := d) (hd := by omega) (k := A 7 (s).toNat)   (h_k := ⟨(Int.le_trans (by decide : (-2147483648 : Int) ≤ 0) b1.1), (Int.le_trans b1.2 (by decide : (14 : Int) ≤ 2147483647))⟩)  ) (fun o V' hq => ?_)
        obtain ⟨r186, rfl, rfl, b187, q188⟩ := hq
        refine .inr ⟨_, rfl, ?_⟩
        rcases q188 with rfl | rfl
        · have _q : True := trivial
          refine jx_if_ne (pc' := 75) (tg := 94) rfl rfl rfl (by decide) (by decide) (fun h189 => ?_) (fun h189 => ?_)
          · have _q := h189
            refine jx_ld (pc' := 95) (l' := L2) (st' := [.ref 66]) rfl (jl_aloadn gL2_0) ?_
            refine jx_ar (pc' := 96) (st' := [.int (i32 (2)), .ref 66]) rfl rfl rfl rfl ?_
            refine jx_ld (pc' := 97) (l' := L2) (st' := [.int (i32 (s)), .int (i32 (2)), .ref 66]) rfl (jl_iloadn gL2_1) ?_
            refine jx_ar (pc' := 98) (st' := [.int (i32 (0)), .int (i32 (s)), .int (i32 (2)), .ref 66]) rfl rfl rfl rfl ?_
            refine jx_ar (pc' := 99) (st' := [.int (i32 (0)), .int (i32 (0)), .int (i32 (s)), .int (i32 (2)), .ref 66]) rfl rfl rfl rfl ?_
            refine jx_ar (pc' := 100) (st' := [.int (i32 (0)), .int (i32 (0)), .int (i32 (0)), .int (i32 (s)), .int (i32 (2)), .ref 66]) rfl rfl rfl rfl ?_
            refine jx_vr (pc' := 103) (as := [.int (i32 (2)), .int (i32 (s)), .int (i32 (0)), .int (i32 (0)), .int (i32 (0))]) (st := []) rfl rfl rfl rfl ⟨rfl, rfl, Nat.le_of_ble_eq_true rfl⟩ rfl rfl (c_node (dd := d) (hd := by omega) (hW := hW) (kind := 2) (a := s) (b := 0) (c := 0) (e := 0) (nd := nd) (e_nd := show G 31 = nd from (e_nd))  (h_kind := ⟨(by decide), (by decide)⟩) (h_a := ⟨(Int.le_trans (by decide : (-2147483648 : Int) ≤ -2147483648) h_s.1), (Int.le_trans h_s.2 (by decide : (2147483647 : Int) ≤ 2147483647))⟩) (h_b := ⟨(by decide), (by decide)⟩) (h_c := ⟨(by decide), (by decide)⟩) (h_e := ⟨(by decide), (by decide)⟩)  (p_0 := by omega) (p_1 := by omega)) (fun o V' hq => ?_)
            obtain ⟨G190, A191, nd2_192, rfl, rfl, hW193, hF194, hQ195, e196, p197, -⟩ := hq
            have hF199 := Fr_tr hF0 hF194 (Fr_sub (by decide)) (Fr_sub (by decide))
            have hP200 := Pf_tr hP0 hQ195 (by omega)
            have bnd2_192 : (0 : Int) ≤ nd2_192 ∧ nd2_192 ≤ 6999 := e196 ▸ hW193.1 31
            refine .inr ⟨_, rfl, ?_⟩
            refine jx_rt (v := some (.int (i32 (nd)))) rfl rfl rfl rfl rfl rfl ?_
            have z201 := tz_f (tk0)
            exact ⟨_, _, _, at0, fk, op0, nd2_192, tk0, rfl, rfl, hW193, hF199, hP200, by omega, ((hF194.1 10 rfl).trans (e_at0)), ((hF194.1 16 rfl).trans (e_fk)), ((hF194.1 15 rfl).trans (e_op0)), (e196), ((hF194.1 11 rfl).trans (e_tk0)), by omega, by omega, by omega, by omega, by omega, by omega, by first | exact Or.inl (⟨by omega, by omega, by omega⟩) | exact Or.inr ((⟨by omega, by omega, by omega⟩))⟩
          · have _q := h189
            exact absurd h189 (by omega)
        · have _q : True := trivial
          refine jx_if_ne (pc' := 75) (tg := 94) rfl rfl rfl (by decide) (by decide) (fun h202 => ?_) (fun h202 => ?_)
          · have _q := h202
            exact absurd h202 (by omega)
          · have _q := h202
            refine jx_go (tg := 86) rfl rfl ?_
            refine jx_ld (pc' := 87) (l' := L2) (st' := [.ref 66]) rfl (jl_aloadn gL2_0) ?_
            refine jx_ar (pc' := 88) (st' := [.int (i32 (4)), .ref 66]) rfl rfl rfl rfl ?_
            refine jx_ld (pc' := 89) (l' := L2) (st' := [.int (i32 (place)), .int (i32 (4)), .ref 66]) rfl (jl_iloadn gL2_2) ?_
            refine jx_vr (pc' := 92) (as := [.int (i32 (4)), .int (i32 (place))]) (st := []) rfl rfl rfl rfl ⟨rfl, rfl, Nat.le_of_ble_eq_true rfl⟩ rfl rfl (c_fail (dd := d) (hd := by omega) (hW := hW) (kind := 4) (place := place) (fk := fk) (e_fk := show G 16 = fk from (e_fk))  (h_kind := ⟨(by decide), (by decide)⟩) (h_place := ⟨(Int.le_trans (by decide : (-2147483648 : Int) ≤ -2147483648) h_place.1), (Int.le_trans h_place.2 (by decide : (2147483647 : Int) ≤ 2147483647))⟩)  (p_0 := by omega) (p_1 := by omega)) (fun o V' hq => ?_)
            obtain ⟨G203, A204, fk2_205, rfl, rfl, hW206, hF207, e208, p209, -⟩ := hq
            have hF211 := Fr_tr hF0 hF207 (Fr_sub (by decide)) (Fr_sub (by decide))
            have hP212 := Pf_f hP0 hF207 (by decide)
            have bfk2_205 : (0 : Int) ≤ fk2_205 ∧ fk2_205 ≤ 6 := e208 ▸ hW206.1 16
            refine .inl ⟨rfl, ?_⟩
            refine jx_ar (pc' := 93) (st' := [.int (i32 (0))]) rfl rfl rfl rfl ?_
            refine jx_rt (v := some (.int (i32 (0)))) rfl rfl rfl rfl rfl rfl ?_
            have z213 := tz_f (tk0)
            exact ⟨_, _, _, at0, fk2_205, op0, nd, tk0, rfl, rfl, hW206, hF211, hP212, by omega, ((hF207.1 10 rfl).trans (e_at0)), (e208), ((hF207.1 15 rfl).trans (e_op0)), ((hF207.1 31 rfl).trans (e_nd)), ((hF207.1 11 rfl).trans (e_tk0)), by omega, by omega, by omega, by omega, by omega, by omega, by first | exact Or.inl (⟨by omega, by omega, by omega⟩) | exact Or.inr ((⟨by omega, by omega, by omega⟩))⟩
    · have _q := h156
      exact absurd h156 (by omega)
set_option maxRecDepth 20000 in
set_option maxHeartbeats 4000000 in
theorem c_readReference {X : jX} {dd : Nat} {c0 c1 : jC} {G : Nat → Int} {A : Nat → Nat → Int} {T : jH} {ch : Int} {ln le at0 fk op0 nd tk0 : Int} (hd : 68 ≤ dd) (hW : Wk G A) (e_ln : G 9 = ln) (e_le : A 4 (ln).toNat = le) (e_at0 : G 10 = at0) (e_fk : G 16 = fk) (e_op0 : G 15 = op0) (e_nd : G 31 = nd) (e_tk0 : G 11 = tk0) (h_ch : (0 : Int) ≤ ch ∧ ch ≤ 1) (p_0 : 0 ≤ op0) (p_1 : op0 ≤ 9) (p_2 : op0 ≤ 8 ∨ 1 ≤ fk) (p_3 : nd ≤ 2 * at0 - tz tk0 + 50) (p_4 : at0 ≤ le) : wk X dd 290 [.ref 66, .int (i32 ch)] (rV c0 c1 G A T) (fun o V' => ∃ (G' : Nat → Int) (A' : Nat → Nat → Int) (r : Int) (at2 : Int) (fk2 : Int) (op2 : Int) (nd2 : Int) (tk2 : Int), V' = rV c0 c1 G' A' T ∧ o = .inl (some (.int (i32 r))) ∧ Wk G' A' ∧ Fr [10, 11, 12, 13, 14, 15, 16, 17, 18, 31] [15, 16, 17, 18, 19, 20, 21, 22, 24, 28] G A G' A' ∧ Pf nd A A' ∧ ((-2147483648 : Int) ≤ r ∧ r ≤ 2147483647) ∧ G' 10 = at2 ∧ G' 16 = fk2 ∧ G' 15 = op2 ∧ G' 31 = nd2 ∧ G' 11 = tk2 ∧ (at0 ≤ at2) ∧ (at2 ≤ le) ∧ (nd ≤ nd2) ∧ (op2 = op0) ∧ (0 ≤ r) ∧ (r ≤ nd2) ∧ (((1 ≤ fk) ∧ (1 ≤ fk2) ∧ (nd2 = nd) ∧ (at2 = at0) ∧ (tk2 = tk0) ∧ (tz tk2 = tz tk0)) ∨ ((fk = 0) ∧ (1 ≤ fk2) ∧ (nd2 - nd ≤ (2 * at2 - tz tk2) - (2 * at0 - tz tk0) + 1)) ∨ ((fk = 0) ∧ (fk2 = 0) ∧ (nd2 - nd ≤ (2 * at2 - tz tk2) - (2 * at0 - tz tk0))))) := by
  obtain ⟨d, rfl⟩ : ∃ d, dd = d + 1 := ⟨dd - 1, by omega⟩
  refine wk_of (e := jm290) rfl (Nat.le_of_ble_eq_true rfl) ?_
  show wj X d jm290 (0, [(0, .ref 66), (1, .int (i32 (ch)))], [], rV c0 c1 G A T) _
  have hF0 : Fr [10, 11, 12, 13, 14, 15, 16, 17, 18, 31] [15, 16, 17, 18, 19, 20, 21, 22, 24, 28] G A G A := Fr_rf
  have hP0 : Pf nd A A := Pf_rf
  have b_ln : (0 : Int) ≤ ln ∧ ln ≤ 3000 := e_ln ▸ hW.1 9
  have b_le : (0 : Int) ≤ le ∧ le ≤ 3000 := e_le ▸ hW.2 4 _
  have b_at0 : (0 : Int) ≤ at0 ∧ at0 ≤ 3002 := e_at0 ▸ hW.1 10
  have b_fk : (0 : Int) ≤ fk ∧ fk ≤ 6 := e_fk ▸ hW.1 16
  have b_op0 : (-2147483648 : Int) ≤ op0 ∧ op0 ≤ 2147483647 := e_op0 ▸ hW.1 15
  have b_nd : (0 : Int) ≤ nd ∧ nd ≤ 6999 := e_nd ▸ hW.1 31
  have z_tk0 := tz_f tk0
  have b_tk0 : (0 : Int) ≤ tk0 ∧ tk0 ≤ 5 := e_tk0 ▸ hW.1 11
  refine jx_ld (pc' := 1) (l' := [(0, .ref 66), (1, .int (i32 (ch)))]) (st' := [.ref 66]) rfl (jl_aloadn rfl) ?_
  refine jx_vr (pc' := 4) (as := []) (st := []) rfl rfl rfl rfl ⟨rfl, rfl, Nat.le_of_ble_eq_true rfl⟩ rfl rfl (c_bad (dd := d) (hd := by omega) (hW := hW)  (fk := fk) (e_fk := show G 16 = fk from (e_fk))    ) (fun o V' hq => ?_)
  obtain ⟨r1, rfl, rfl, b2, q3⟩ := hq
  refine .inr ⟨_, rfl, ?_⟩
  rcases q3 with ⟨rfl, a4⟩ | ⟨rfl, a5⟩
  · have _q : True := trivial
    refine jx_if_eq (pc' := 7) (tg := 9) rfl rfl rfl (by decide) (by decide) (fun h6 => ?_) (fun h6 => ?_)
    · have _q := h6
      exact absurd h6 (by omega)
    · have _q := h6
      refine jx_ar (pc' := 8) (st' := [.int (i32 (0))]) rfl rfl rfl rfl ?_
      refine jx_rt (v := some (.int (i32 (0)))) rfl rfl rfl rfl rfl rfl ?_
      have z7 := tz_f (tk0)
      exact ⟨_, _, _, at0, fk, op0, nd, tk0, rfl, rfl, hW, hF0, hP0, by omega, (e_at0), (e_fk), (e_op0), (e_nd), (e_tk0), by omega, by omega, by omega, by omega, by omega, by omega, by first | exact Or.inl (⟨by omega, by omega, by omega, by omega, by omega, by omega⟩) | exact Or.inr (Or.inl (⟨by omega, by omega, by omega⟩)) | exact Or.inr (Or.inr ((⟨by omega, by omega, by omega⟩)))⟩
  · have _q : True := trivial
    refine jx_if_eq (pc' := 7) (tg := 9) rfl rfl rfl (by decide) (by decide) (fun h8 => ?_) (fun h8 => ?_)
    · have _q := h8
      refine jx_ld (pc' := 10) (l' := [(0, .ref 66), (1, .int (i32 (ch)))]) (st' := [.ref 66]) rfl (jl_aloadn rfl) ?_
      have z9 := tz_f (tk0)
      refine jr_get (pc' := 13) (i := 11) (v := .int (i32 (tk0))) rfl rfl (by decide) (rFv_eq (by decide) (show G 11 = tk0 from (e_tk0))) rfl ?_
      refine jx_ar (pc' := 14) (st' := [.int (i32 (1)), .int (i32 (tk0))]) rfl rfl rfl rfl ?_
      refine jx_icmp_eq (pc' := 17) (tg := 28) rfl rfl rfl (Int.le_trans (by decide : (-2147483648 : Int) ≤ 0) b_tk0.1) (Int.le_trans b_tk0.2 (by decide : (5 : Int) ≤ 2147483647)) (by decide) (by decide) (fun h10 => ?_) (fun h10 => ?_)
      · have _q := h10
        refine jx_ld (pc' := 29) (l' := [(0, .ref 66), (1, .int (i32 (ch)))]) (st' := [.ref 66]) rfl (jl_aloadn rfl) ?_
        have b11 : (-3000 : Int) ≤ G 12 ∧ G 12 ≤ 3002 := hW.1 12
        refine jr_get (pc' := 32) (i := 12) (v := .int (i32 (G 12))) rfl rfl (by decide) rfl rfl ?_
        refine jx_ld (pc' := 33) (l' := jSto1 [(0, .ref 66), (1, .int (i32 (ch)))] 2 (.int (i32 (G 12)))) (st' := []) rfl rfl ?_
        obtain ⟨L12, eL12⟩ : ∃ q, q = jSto1 [(0, .ref 66), (1, .int (i32 (ch)))] 2 (.int (i32 (G 12))) := ⟨_, rfl⟩
        rw [← eL12]
        have gL12_0 : jGet L12 0 = some (.ref 66) := eL12 ▸ jg_ne (by decide) (rfl : jGet [(0, .ref 66), (1, .int (i32 (ch)))] 0 = some (.ref 66)) rfl
        have gL12_1 : jGet L12 1 = some (.int (i32 (ch))) := eL12 ▸ jg_ne (by decide) (rfl : jGet [(0, .ref 66), (1, .int (i32 (ch)))] 1 = some (.int (i32 (ch)))) rfl
        have gL12_2 : jGet L12 2 = some (.int (i32 (G 12))) := eL12 ▸ jg_eq
        refine jx_ld (pc' := 34) (l' := L12) (st' := [.ref 66]) rfl (jl_aloadn gL12_0) ?_
        refine jx_vr (pc' := 37) (as := []) (st := []) rfl rfl rfl rfl ⟨rfl, rfl, Nat.le_of_ble_eq_true rfl⟩ rfl rfl (c_lookUp (dd := d) (hd := by omega) (hW := hW)  (fk := fk) (e_fk := show G 16 = fk from (e_fk))    ) (fun o V' hq => ?_)
        obtain ⟨G13, A14, r15, fk2_16, rfl, rfl, hW17, hF18, b19, e20, q21⟩ := hq
        have hF22 := Fr_tr hF0 hF18 (Fr_sub (by decide)) (Fr_sub (by decide))
        have hP23 := Pf_f hP0 hF18 (by decide)
        have bfk2_16 : (0 : Int) ≤ fk2_16 ∧ fk2_16 ≤ 6 := e20 ▸ hW17.1 16
        refine .inr ⟨_, rfl, ?_⟩
        rcases q21 with ⟨a24, a25⟩ | ⟨a26, a27, a28⟩
        · have _q : True := trivial
          refine jx_ld (pc' := 38) (l' := jSto1 L12 3 (.int (i32 (r15)))) (st' := []) rfl rfl ?_
          obtain ⟨L29, eL29⟩ : ∃ q, q = jSto1 L12 3 (.int (i32 (r15))) := ⟨_, rfl⟩
          rw [← eL29]
          have gL29_0 : jGet L29 0 = some (.ref 66) := eL29 ▸ jg_ne (by decide) gL12_0 rfl
          have gL29_1 : jGet L29 1 = some (.int (i32 (ch))) := eL29 ▸ jg_ne (by decide) gL12_1 rfl
          have gL29_2 : jGet L29 2 = some (.int (i32 (G 12))) := eL29 ▸ jg_ne (by decide) gL12_2 rfl
          have gL29_3 : jGet L29 3 = some (.int (i32 (r15))) := eL29 ▸ jg_eq
          refine jx_ld (pc' := 39) (l' := L29) (st' := [.ref 66]) rfl (jl_aloadn gL29_0) ?_
          refine jx_vr (pc' := 42) (as := []) (st := []) rfl rfl rfl rfl ⟨rfl, rfl, Nat.le_of_ble_eq_true rfl⟩ rfl rfl (c_bad (dd := d) (hd := by omega) (hW := hW17)  (fk := fk2_16) (e_fk := show G13 16 = fk2_16 from (e20))    ) (fun o V' hq => ?_)
          obtain ⟨r30, rfl, rfl, b31, q32⟩ := hq
          refine .inr ⟨_, rfl, ?_⟩
          rcases q32 with ⟨rfl, a33⟩ | ⟨rfl, a34⟩
          · have _q : True := trivial
            refine jx_if_eq (pc' := 45) (tg := 47) rfl rfl rfl (by decide) (by decide) (fun h35 => ?_) (fun h35 => ?_)
            · have _q := h35
              exact absurd h35 (by omega)
            · have _q := h35
              refine jx_ar (pc' := 46) (st' := [.int (i32 (0))]) rfl rfl rfl rfl ?_
              refine jx_rt (v := some (.int (i32 (0)))) rfl rfl rfl rfl rfl rfl ?_
              have z36 := tz_f (tk0)
              exact ⟨_, _, _, at0, fk2_16, op0, nd, tk0, rfl, rfl, hW17, hF22, hP23, by omega, ((hF18.1 10 rfl).trans (e_at0)), (e20), ((hF18.1 15 rfl).trans (e_op0)), ((hF18.1 31 rfl).trans (e_nd)), ((hF18.1 11 rfl).trans (e_tk0)), by omega, by omega, by omega, by omega, by omega, by omega, by first | exact Or.inl (⟨by omega, by omega, by omega, by omega, by omega, by omega⟩) | exact Or.inr (Or.inl (⟨by omega, by omega, by omega⟩)) | exact Or.inr (Or.inr ((⟨by omega, by omega, by omega⟩)))⟩
          · have _q : True := trivial
            exfalso
            omega
        · have _q : True := trivial
          refine jx_ld (pc' := 38) (l' := jSto1 L12 3 (.int (i32 (r15)))) (st' := []) rfl rfl ?_
          obtain ⟨L37, eL37⟩ : ∃ q, q = jSto1 L12 3 (.int (i32 (r15))) := ⟨_, rfl⟩
          rw [← eL37]
          have gL37_0 : jGet L37 0 = some (.ref 66) := eL37 ▸ jg_ne (by decide) gL12_0 rfl
          have gL37_1 : jGet L37 1 = some (.int (i32 (ch))) := eL37 ▸ jg_ne (by decide) gL12_1 rfl
          have gL37_2 : jGet L37 2 = some (.int (i32 (G 12))) := eL37 ▸ jg_ne (by decide) gL12_2 rfl
          have gL37_3 : jGet L37 3 = some (.int (i32 (r15))) := eL37 ▸ jg_eq
          refine jx_ld (pc' := 39) (l' := L37) (st' := [.ref 66]) rfl (jl_aloadn gL37_0) ?_
          refine jx_vr (pc' := 42) (as := []) (st := []) rfl rfl rfl rfl ⟨rfl, rfl, Nat.le_of_ble_eq_true rfl⟩ rfl rfl (c_bad (dd := d) (hd := by omega) (hW := hW17)  (fk := fk2_16) (e_fk := show G13 16 = fk2_16 from (e20))    ) (fun o V' hq => ?_)
          obtain ⟨r38, rfl, rfl, b39, q40⟩ := hq
          refine .inr ⟨_, rfl, ?_⟩
          rcases q40 with ⟨rfl, a41⟩ | ⟨rfl, a42⟩
          · have _q : True := trivial
            exfalso
            omega
          · have _q : True := trivial
            refine jx_if_eq (pc' := 45) (tg := 47) rfl rfl rfl (by decide) (by decide) (fun h43 => ?_) (fun h43 => ?_)
            · have _q := h43
              refine jx_ld (pc' := 48) (l' := L37) (st' := [.ref 66]) rfl (jl_aloadn gL37_0) ?_
              refine jx_vr (pc' := 51) (as := []) (st := []) rfl rfl rfl rfl ⟨rfl, rfl, Nat.le_of_ble_eq_true rfl⟩ rfl rfl (c_next (dd := d) (hd := by omega) (hW := hW17)  (ln := ln) (e_ln := show G13 9 = ln from ((hF18.1 9 rfl).trans (e_ln))) (le := le) (e_le := show A14 4 (ln).toNat = le from (congrFun (hF18.2 4 rfl) _).trans (e_le)) (at0 := at0) (e_at0 := show G13 10 = at0 from ((hF18.1 10 rfl).trans (e_at0)))    (p_0 := by omega)) (fun o V' hq => ?_)
              obtain ⟨G44, A45, at2_46, tk2_47, rfl, rfl, hW48, hF49, e50, e51, p52, p53, p54, -⟩ := hq
              have hF56 := Fr_tr hF22 hF49 (Fr_sub (by decide)) (Fr_sub (by decide))
              have hP57 := Pf_f hP23 hF49 (by decide)
              have bat2_46 : (0 : Int) ≤ at2_46 ∧ at2_46 ≤ 3002 := e50 ▸ hW48.1 10
              have ztk2_47 := tz_b tk2_47
              have btk2_47 : (0 : Int) ≤ tk2_47 ∧ tk2_47 ≤ 5 := e51 ▸ hW48.1 11
              refine .inl ⟨rfl, ?_⟩
              refine jx_ld (pc' := 52) (l' := L37) (st' := [.ref 66]) rfl (jl_aloadn gL37_0) ?_
              refine jx_ld (pc' := 53) (l' := L37) (st' := [.int (i32 (r15)), .ref 66]) rfl (jl_iloadn gL37_3) ?_
              refine jx_ld (pc' := 54) (l' := L37) (st' := [.int (i32 (G 12)), .int (i32 (r15)), .ref 66]) rfl (jl_iloadn gL37_2) ?_
              refine jx_ld (pc' := 55) (l' := L37) (st' := [.int (i32 (ch)), .int (i32 (G 12)), .int (i32 (r15)), .ref 66]) rfl (jl_iloadn gL37_1) ?_
              refine jx_vr (pc' := 58) (as := [.int (i32 (r15)), .int (i32 (G 12)), .int (i32 (ch))]) (st := []) rfl rfl rfl rfl ⟨rfl, rfl, Nat.le_of_ble_eq_true rfl⟩ rfl rfl (c_readBehind (dd := d) (hd := by omega) (hW := hW48) (s := r15) (place := G 12) (ch := ch) (ln := ln) (e_ln := show G44 9 = ln from ((hF49.1 9 rfl).trans ((hF18.1 9 rfl).trans (e_ln)))) (le := le) (e_le := show A45 4 (ln).toNat = le from (congrFun ((hF49.2 4 rfl).trans (hF18.2 4 rfl)) _).trans (e_le)) (at0 := at2_46) (e_at0 := show G44 10 = at2_46 from (e50)) (fk := fk2_16) (e_fk := show G44 16 = fk2_16 from ((hF49.1 16 rfl).trans (e20))) (op0 := op0) (e_op0 := show G44 15 = op0 from ((hF49.1 15 rfl).trans ((hF18.1 15 rfl).trans (e_op0)))) (nd := nd) (e_nd := show G44 31 = nd from ((hF49.1 31 rfl).trans ((hF18.1 31 rfl).trans (e_nd)))) (tk0 := tk2_47) (e_tk0 := show G44 11 = tk2_47 from (e51))  (h_s := ⟨(Int.le_trans (by decide : (-2147483648 : Int) ≤ -2147483648) b19.1), (Int.le_trans b19.2 (by decide : (2147483647 : Int) ≤ 2147483647))⟩) (h_place := ⟨(Int.le_trans (by decide : (-2147483648 : Int) ≤ -3000) b11.1), (Int.le_trans b11.2 (by decide : (3002 : Int) ≤ 2147483647))⟩) (h_ch := ⟨(Int.le_trans (by decide : (0 : Int) ≤ 0) h_ch.1), (Int.le_trans h_ch.2 (by decide : (1 : Int) ≤ 1))⟩)  (p_0 := by omega) (p_1 := by omega) (p_2 := by omega) (p_3 := by omega) (p_4 := by omega) (p_5 := by omega) (p_6 := by omega) (p_7 := by omega) (p_8 := by omega)) (fun o V' hq => ?_)
              obtain ⟨G58, A59, r60, at2_61, fk2_62, op2_63, nd2_64, tk2_65, rfl, rfl, hW66, hF67, hQ68, b69, e70, e71, e72, e73, e74, p75, p76, p77, p78, p79, p80, q81⟩ := hq
              have hF82 := Fr_tr hF56 hF67 (Fr_sub (by decide)) (Fr_sub (by decide))
              have hP83 := Pf_tr hP57 hQ68 (by omega)
              have bat2_61 : (0 : Int) ≤ at2_61 ∧ at2_61 ≤ 3002 := e70 ▸ hW66.1 10
              have bfk2_62 : (0 : Int) ≤ fk2_62 ∧ fk2_62 ≤ 6 := e71 ▸ hW66.1 16
              have bop2_63 : (-2147483648 : Int) ≤ op2_63 ∧ op2_63 ≤ 2147483647 := e72 ▸ hW66.1 15
              have bnd2_64 : (0 : Int) ≤ nd2_64 ∧ nd2_64 ≤ 6999 := e73 ▸ hW66.1 31
              have ztk2_65 := tz_b tk2_65
              have btk2_65 : (0 : Int) ≤ tk2_65 ∧ tk2_65 ≤ 5 := e74 ▸ hW66.1 11
              refine .inr ⟨_, rfl, ?_⟩
              rcases q81 with ⟨a84, a85, a86⟩ | ⟨a87, a88, a89⟩
              · have _q : True := trivial
                refine jx_rt (v := some (.int (i32 (r60)))) rfl rfl rfl rfl rfl rfl ?_
                have z90 := tz_f (tk2_65)
                exact ⟨_, _, _, at2_61, fk2_62, op2_63, nd2_64, tk2_65, rfl, rfl, hW66, hF82, hP83, by omega, (e70), (e71), (e72), (e73), (e74), by omega, by omega, by omega, by omega, by omega, by omega, by first | exact Or.inl (⟨by omega, by omega, by omega, by omega, by omega, by omega⟩) | exact Or.inr (Or.inl (⟨by omega, by omega, by omega⟩)) | exact Or.inr (Or.inr ((⟨by omega, by omega, by omega⟩)))⟩
              · have _q : True := trivial
                refine jx_rt (v := some (.int (i32 (r60)))) rfl rfl rfl rfl rfl rfl ?_
                have z91 := tz_f (tk2_65)
                exact ⟨_, _, _, at2_61, fk2_62, op2_63, nd2_64, tk2_65, rfl, rfl, hW66, hF82, hP83, by omega, (e70), (e71), (e72), (e73), (e74), by omega, by omega, by omega, by omega, by omega, by omega, by first | exact Or.inl (⟨by omega, by omega, by omega, by omega, by omega, by omega⟩) | exact Or.inr (Or.inl (⟨by omega, by omega, by omega⟩)) | exact Or.inr (Or.inr ((⟨by omega, by omega, by omega⟩)))⟩
            · have _q := h43
              exact absurd h43 (by omega)
      · have _q := h10
        refine jx_ld (pc' := 18) (l' := [(0, .ref 66), (1, .int (i32 (ch)))]) (st' := [.ref 66]) rfl (jl_aloadn rfl) ?_
        refine jx_ar (pc' := 19) (st' := [.int (i32 (1)), .ref 66]) rfl rfl rfl rfl ?_
        refine jx_ld (pc' := 20) (l' := [(0, .ref 66), (1, .int (i32 (ch)))]) (st' := [.ref 66, .int (i32 (1)), .ref 66]) rfl (jl_aloadn rfl) ?_
        have b92 : (-3000 : Int) ≤ G 12 ∧ G 12 ≤ 3002 := hW.1 12
        refine jr_get (pc' := 23) (i := 12) (v := .int (i32 (G 12))) rfl rfl (by decide) rfl rfl ?_
        refine jx_vr (pc' := 26) (as := [.int (i32 (1)), .int (i32 (G 12))]) (st := []) rfl rfl rfl rfl ⟨rfl, rfl, Nat.le_of_ble_eq_true rfl⟩ rfl rfl (c_fail (dd := d) (hd := by omega) (hW := hW) (kind := 1) (place := G 12) (fk := fk) (e_fk := show G 16 = fk from (e_fk))  (h_kind := ⟨(by decide), (by decide)⟩) (h_place := ⟨(Int.le_trans (by decide : (-2147483648 : Int) ≤ -3000) b92.1), (Int.le_trans b92.2 (by decide : (3002 : Int) ≤ 2147483647))⟩)  (p_0 := by omega) (p_1 := by omega)) (fun o V' hq => ?_)
        obtain ⟨G93, A94, fk2_95, rfl, rfl, hW96, hF97, e98, p99, -⟩ := hq
        have hF101 := Fr_tr hF0 hF97 (Fr_sub (by decide)) (Fr_sub (by decide))
        have hP102 := Pf_f hP0 hF97 (by decide)
        have bfk2_95 : (0 : Int) ≤ fk2_95 ∧ fk2_95 ≤ 6 := e98 ▸ hW96.1 16
        refine .inl ⟨rfl, ?_⟩
        refine jx_ar (pc' := 27) (st' := [.int (i32 (0))]) rfl rfl rfl rfl ?_
        refine jx_rt (v := some (.int (i32 (0)))) rfl rfl rfl rfl rfl rfl ?_
        have z103 := tz_f (tk0)
        exact ⟨_, _, _, at0, fk2_95, op0, nd, tk0, rfl, rfl, hW96, hF101, hP102, by omega, ((hF97.1 10 rfl).trans (e_at0)), (e98), ((hF97.1 15 rfl).trans (e_op0)), ((hF97.1 31 rfl).trans (e_nd)), ((hF97.1 11 rfl).trans (e_tk0)), by omega, by omega, by omega, by omega, by omega, by omega, by first | exact Or.inl (⟨by omega, by omega, by omega, by omega, by omega, by omega⟩) | exact Or.inr (Or.inl (⟨by omega, by omega, by omega⟩)) | exact Or.inr (Or.inr ((⟨by omega, by omega, by omega⟩)))⟩
    · have _q := h8
      exact absurd h8 (by omega)
set_option maxRecDepth 20000 in
set_option maxHeartbeats 4000000 in
theorem c_needNumber {X : jX} {dd : Nat} {c0 c1 : jC} {G : Nat → Int} {A : Nat → Nat → Int} {T : jH} {lo hi : Int} {ln le at0 fk tk0 : Int} (hd : 7 ≤ dd) (hW : Wk G A) (e_ln : G 9 = ln) (e_le : A 4 (ln).toNat = le) (e_at0 : G 10 = at0) (e_fk : G 16 = fk) (e_tk0 : G 11 = tk0) (h_lo : (-2147483648 : Int) ≤ lo ∧ lo ≤ 2147483647) (h_hi : (-2147483648 : Int) ≤ hi ∧ hi ≤ 2147483647) (p_0 : at0 ≤ le) : wk X dd 293 [.ref 66, .int (i32 lo), .int (i32 hi)] (rV c0 c1 G A T) (fun o V' => ∃ (G' : Nat → Int) (A' : Nat → Nat → Int) (r : Int) (at2 : Int) (tk2 : Int) (fk2 : Int), V' = rV c0 c1 G' A' T ∧ o = .inl (some (.int (i32 r))) ∧ Wk G' A' ∧ Fr [10, 11, 12, 13, 14, 16, 17, 18] [] G A G' A' ∧ ((-2147483648 : Int) ≤ r ∧ r ≤ 2147483647) ∧ G' 10 = at2 ∧ G' 11 = tk2 ∧ G' 16 = fk2 ∧ (at0 ≤ at2) ∧ (at2 ≤ le) ∧ (((1 ≤ fk2) ∧ (at2 = at0) ∧ (tk2 = tk0) ∧ (tz tk2 = tz tk0)) ∨ ((fk2 = 0) ∧ (fk = 0) ∧ (lo ≤ r) ∧ (r ≤ hi) ∧ (2 * at0 ≤ 2 * at2 - tz tk2)))) := by
  obtain ⟨d, rfl⟩ : ∃ d, dd = d + 1 := ⟨dd - 1, by omega⟩
  refine wk_of (e := jm293) rfl (Nat.le_of_ble_eq_true rfl) ?_
  show wj X d jm293 (0, [(0, .ref 66), (1, .int (i32 (lo))), (2, .int (i32 (hi)))], [], rV c0 c1 G A T) _
  have hF0 : Fr [10, 11, 12, 13, 14, 16, 17, 18] [] G A G A := Fr_rf
  have b_ln : (0 : Int) ≤ ln ∧ ln ≤ 3000 := e_ln ▸ hW.1 9
  have b_le : (0 : Int) ≤ le ∧ le ≤ 3000 := e_le ▸ hW.2 4 _
  have b_at0 : (0 : Int) ≤ at0 ∧ at0 ≤ 3002 := e_at0 ▸ hW.1 10
  have b_fk : (0 : Int) ≤ fk ∧ fk ≤ 6 := e_fk ▸ hW.1 16
  have z_tk0 := tz_f tk0
  have b_tk0 : (0 : Int) ≤ tk0 ∧ tk0 ≤ 5 := e_tk0 ▸ hW.1 11
  refine jx_ld (pc' := 1) (l' := [(0, .ref 66), (1, .int (i32 (lo))), (2, .int (i32 (hi)))]) (st' := [.ref 66]) rfl (jl_aloadn rfl) ?_
  have b1 : (-2147483648 : Int) ≤ G 13 ∧ G 13 ≤ 2147483647 := hW.1 13
  refine jr_get (pc' := 4) (i := 13) (v := .int (i32 (G 13))) rfl rfl (by decide) rfl rfl ?_
  refine jx_ld (pc' := 5) (l' := jSto1 [(0, .ref 66), (1, .int (i32 (lo))), (2, .int (i32 (hi)))] 3 (.int (i32 (G 13)))) (st' := []) rfl rfl ?_
  obtain ⟨L2, eL2⟩ : ∃ q, q = jSto1 [(0, .ref 66), (1, .int (i32 (lo))), (2, .int (i32 (hi)))] 3 (.int (i32 (G 13))) := ⟨_, rfl⟩
  rw [← eL2]
  have gL2_0 : jGet L2 0 = some (.ref 66) := eL2 ▸ jg_ne (by decide) (rfl : jGet [(0, .ref 66), (1, .int (i32 (lo))), (2, .int (i32 (hi)))] 0 = some (.ref 66)) rfl
  have gL2_1 : jGet L2 1 = some (.int (i32 (lo))) := eL2 ▸ jg_ne (by decide) (rfl : jGet [(0, .ref 66), (1, .int (i32 (lo))), (2, .int (i32 (hi)))] 1 = some (.int (i32 (lo)))) rfl
  have gL2_2 : jGet L2 2 = some (.int (i32 (hi))) := eL2 ▸ jg_ne (by decide) (rfl : jGet [(0, .ref 66), (1, .int (i32 (lo))), (2, .int (i32 (hi)))] 2 = some (.int (i32 (hi)))) rfl
  have gL2_3 : jGet L2 3 = some (.int (i32 (G 13))) := eL2 ▸ jg_eq
  refine jx_ld (pc' := 6) (l' := L2) (st' := [.ref 66]) rfl (jl_aloadn gL2_0) ?_
  refine jx_ld (pc' := 7) (l' := L2) (st' := [.ref 66, .ref 66]) rfl (jl_aloadn gL2_0) ?_
  have z3 := tz_f (tk0)
  refine jr_get (pc' := 10) (i := 11) (v := .int (i32 (tk0))) rfl rfl (by decide) (rFv_eq (by decide) (show G 11 = tk0 from (e_tk0))) rfl ?_
  refine jx_ar (pc' := 11) (st' := [.int (i32 (3)), .int (i32 (tk0)), .ref 66]) rfl rfl rfl rfl ?_
  refine jx_icmp_ne (pc' := 14) (tg := 27) rfl rfl rfl (Int.le_trans (by decide : (-2147483648 : Int) ≤ 0) b_tk0.1) (Int.le_trans b_tk0.2 (by decide : (5 : Int) ≤ 2147483647)) (by decide) (by decide) (fun h4 => ?_) (fun h4 => ?_)
  · have _q := h4
    refine jx_ar (pc' := 28) (st' := [.int (i32 (0)), .ref 66]) rfl rfl rfl rfl ?_
    refine jx_vr (pc' := 31) (as := [.int (i32 (0))]) (st := []) rfl rfl rfl rfl ⟨rfl, rfl, Nat.le_of_ble_eq_true rfl⟩ rfl rfl (c_need (dd := d) (hd := by omega) (hW := hW) (g := 0) (ln := ln) (e_ln := show G 9 = ln from (e_ln)) (le := le) (e_le := show A 4 (ln).toNat = le from (e_le)) (at0 := at0) (e_at0 := show G 10 = at0 from (e_at0)) (fk := fk) (e_fk := show G 16 = fk from (e_fk)) (tk0 := tk0) (e_tk0 := show G 11 = tk0 from (e_tk0))  (h_g := ⟨(by decide), (by decide)⟩)  (p_0 := by omega)) (fun o V' hq => ?_)
    obtain ⟨G5, A6, at2_7, tk2_8, fk2_9, rfl, rfl, hW10, hF11, e12, e13, e14, p15, p16, q17⟩ := hq
    have hF18 := Fr_tr hF0 hF11 (Fr_sub (by decide)) (Fr_sub (by decide))
    have bat2_7 : (0 : Int) ≤ at2_7 ∧ at2_7 ≤ 3002 := e12 ▸ hW10.1 10
    have ztk2_8 := tz_b tk2_8
    have btk2_8 : (0 : Int) ≤ tk2_8 ∧ tk2_8 ≤ 5 := e13 ▸ hW10.1 11
    have bfk2_9 : (0 : Int) ≤ fk2_9 ∧ fk2_9 ≤ 6 := e14 ▸ hW10.1 16
    refine .inl ⟨rfl, ?_⟩
    rcases q17 with ⟨a19, a20, a21, a22⟩ | ⟨a23, a24, a25, a26⟩
    · have _q : True := trivial
      refine jx_ld (pc' := 32) (l' := L2) (st' := [.int (i32 (G 13))]) rfl (jl_iloadn gL2_3) ?_
      refine jx_rt (v := some (.int (i32 (G 13)))) rfl rfl rfl rfl rfl rfl ?_
      have z27 := tz_f (tk2_8)
      exact ⟨_, _, _, at2_7, tk2_8, fk2_9, rfl, rfl, hW10, hF18, by omega, (e12), (e13), (e14), by omega, by omega, by first | exact Or.inl (⟨by omega, by omega, by omega, by omega⟩) | exact Or.inr ((⟨by omega, by omega, by omega, by omega, by omega⟩))⟩
    · have _q : True := trivial
      exfalso
      omega
  · have _q := h4
    refine jx_ld (pc' := 15) (l' := L2) (st' := [.int (i32 (G 13)), .ref 66]) rfl (jl_iloadn gL2_3) ?_
    refine jx_ld (pc' := 16) (l' := L2) (st' := [.int (i32 (lo)), .int (i32 (G 13)), .ref 66]) rfl (jl_iloadn gL2_1) ?_
    refine jx_ld (pc' := 17) (l' := L2) (st' := [.int (i32 (hi)), .int (i32 (lo)), .int (i32 (G 13)), .ref 66]) rfl (jl_iloadn gL2_2) ?_
    refine jx_st (pc' := 20) (as := [.int (i32 (G 13)), .int (i32 (lo)), .int (i32 (hi))]) (st := [.ref 66]) rfl rfl ⟨rfl, Nat.le_of_ble_eq_true rfl⟩ rfl rfl rfl (c_in (dd := d) (hd := by omega) (v := G 13) (a := lo) (b := hi)   (h_v := ⟨(Int.le_trans (by decide : (-2147483648 : Int) ≤ -2147483648) b1.1), (Int.le_trans b1.2 (by decide : (2147483647 : Int) ≤ 2147483647))⟩) (h_a := ⟨(Int.le_trans (by decide : (-2147483648 : Int) ≤ -2147483648) h_lo.1), (Int.le_trans h_lo.2 (by decide : (2147483647 : Int) ≤ 2147483647))⟩) (h_b := ⟨(Int.le_trans (by decide : (-2147483648 : Int) ≤ -2147483648) h_hi.1), (Int.le_trans h_hi.2 (by decide : (2147483647 : Int) ≤ 2147483647))⟩)  ) (fun o V' hq => ?_)
    obtain ⟨r28, rfl, rfl, b29, q30⟩ := hq
    refine .inr ⟨_, rfl, ?_⟩
    rcases q30 with ⟨rfl, a31, a32⟩ | ⟨rfl, a33⟩
    · have _q : True := trivial
      refine jx_if_eq (pc' := 23) (tg := 27) rfl rfl rfl (by decide) (by decide) (fun h34 => ?_) (fun h34 => ?_)
      · have _q := h34
        exact absurd h34 (by omega)
      · have _q := h34
        refine jx_ar (pc' := 24) (st' := [.int (i32 (1)), .ref 66]) rfl rfl rfl rfl ?_
        refine jx_go (tg := 28) rfl rfl ?_
        refine jx_vr (pc' := 31) (as := [.int (i32 (1))]) (st := []) rfl rfl rfl rfl ⟨rfl, rfl, Nat.le_of_ble_eq_true rfl⟩ rfl rfl (c_need (dd := d) (hd := by omega) (hW := hW) (g := 1) (ln := ln) (e_ln := show G 9 = ln from (e_ln)) (le := le) (e_le := show A 4 (ln).toNat = le from (e_le)) (at0 := at0) (e_at0 := show G 10 = at0 from (e_at0)) (fk := fk) (e_fk := show G 16 = fk from (e_fk)) (tk0 := tk0) (e_tk0 := show G 11 = tk0 from (e_tk0))  (h_g := ⟨(by decide), (by decide)⟩)  (p_0 := by omega)) (fun o V' hq => ?_)
        obtain ⟨G35, A36, at2_37, tk2_38, fk2_39, rfl, rfl, hW40, hF41, e42, e43, e44, p45, p46, q47⟩ := hq
        have hF48 := Fr_tr hF0 hF41 (Fr_sub (by decide)) (Fr_sub (by decide))
        have bat2_37 : (0 : Int) ≤ at2_37 ∧ at2_37 ≤ 3002 := e42 ▸ hW40.1 10
        have ztk2_38 := tz_b tk2_38
        have btk2_38 : (0 : Int) ≤ tk2_38 ∧ tk2_38 ≤ 5 := e43 ▸ hW40.1 11
        have bfk2_39 : (0 : Int) ≤ fk2_39 ∧ fk2_39 ≤ 6 := e44 ▸ hW40.1 16
        refine .inl ⟨rfl, ?_⟩
        rcases q47 with ⟨a49, a50, a51, a52⟩ | ⟨a53, a54, a55, a56⟩
        · have _q : True := trivial
          refine jx_ld (pc' := 32) (l' := L2) (st' := [.int (i32 (G 13))]) rfl (jl_iloadn gL2_3) ?_
          refine jx_rt (v := some (.int (i32 (G 13)))) rfl rfl rfl rfl rfl rfl ?_
          have z57 := tz_f (tk2_38)
          exact ⟨_, _, _, at2_37, tk2_38, fk2_39, rfl, rfl, hW40, hF48, by omega, (e42), (e43), (e44), by omega, by omega, by first | exact Or.inl (⟨by omega, by omega, by omega, by omega⟩) | exact Or.inr ((⟨by omega, by omega, by omega, by omega, by omega⟩))⟩
        · have _q : True := trivial
          refine jx_ld (pc' := 32) (l' := L2) (st' := [.int (i32 (G 13))]) rfl (jl_iloadn gL2_3) ?_
          refine jx_rt (v := some (.int (i32 (G 13)))) rfl rfl rfl rfl rfl rfl ?_
          have z58 := tz_f (tk2_38)
          exact ⟨_, _, _, at2_37, tk2_38, fk2_39, rfl, rfl, hW40, hF48, by omega, (e42), (e43), (e44), by omega, by omega, by first | exact Or.inl (⟨by omega, by omega, by omega, by omega⟩) | exact Or.inr ((⟨by omega, by omega, by omega, by omega, by omega⟩))⟩
    · have _q : True := trivial
      refine jx_if_eq (pc' := 23) (tg := 27) rfl rfl rfl (by decide) (by decide) (fun h59 => ?_) (fun h59 => ?_)
      · have _q := h59
        refine jx_ar (pc' := 28) (st' := [.int (i32 (0)), .ref 66]) rfl rfl rfl rfl ?_
        refine jx_vr (pc' := 31) (as := [.int (i32 (0))]) (st := []) rfl rfl rfl rfl ⟨rfl, rfl, Nat.le_of_ble_eq_true rfl⟩ rfl rfl (c_need (dd := d) (hd := by omega) (hW := hW) (g := 0) (ln := ln) (e_ln := show G 9 = ln from (e_ln)) (le := le) (e_le := show A 4 (ln).toNat = le from (e_le)) (at0 := at0) (e_at0 := show G 10 = at0 from (e_at0)) (fk := fk) (e_fk := show G 16 = fk from (e_fk)) (tk0 := tk0) (e_tk0 := show G 11 = tk0 from (e_tk0))  (h_g := ⟨(by decide), (by decide)⟩)  (p_0 := by omega)) (fun o V' hq => ?_)
        obtain ⟨G60, A61, at2_62, tk2_63, fk2_64, rfl, rfl, hW65, hF66, e67, e68, e69, p70, p71, q72⟩ := hq
        have hF73 := Fr_tr hF0 hF66 (Fr_sub (by decide)) (Fr_sub (by decide))
        have bat2_62 : (0 : Int) ≤ at2_62 ∧ at2_62 ≤ 3002 := e67 ▸ hW65.1 10
        have ztk2_63 := tz_b tk2_63
        have btk2_63 : (0 : Int) ≤ tk2_63 ∧ tk2_63 ≤ 5 := e68 ▸ hW65.1 11
        have bfk2_64 : (0 : Int) ≤ fk2_64 ∧ fk2_64 ≤ 6 := e69 ▸ hW65.1 16
        refine .inl ⟨rfl, ?_⟩
        rcases q72 with ⟨a74, a75, a76, a77⟩ | ⟨a78, a79, a80, a81⟩
        · have _q : True := trivial
          refine jx_ld (pc' := 32) (l' := L2) (st' := [.int (i32 (G 13))]) rfl (jl_iloadn gL2_3) ?_
          refine jx_rt (v := some (.int (i32 (G 13)))) rfl rfl rfl rfl rfl rfl ?_
          have z82 := tz_f (tk2_63)
          exact ⟨_, _, _, at2_62, tk2_63, fk2_64, rfl, rfl, hW65, hF73, by omega, (e67), (e68), (e69), by omega, by omega, by first | exact Or.inl (⟨by omega, by omega, by omega, by omega⟩) | exact Or.inr ((⟨by omega, by omega, by omega, by omega, by omega⟩))⟩
        · have _q : True := trivial
          exfalso
          omega
      · have _q := h59
        exact absurd h59 (by omega)
set_option maxRecDepth 20000 in
set_option maxHeartbeats 4000000 in
theorem c_readDeclaration {X : jX} {dd : Nat} {c0 c1 : jC} {G : Nat → Int} {A : Nat → Nat → Int} {T : jH} {ln le at0 fk tk0 li sy na vi : Int} (hd : 8 ≤ dd) (hW : Wk G A) (e_ln : G 9 = ln) (e_le : A 4 (ln).toNat = le) (e_at0 : G 10 = at0) (e_fk : G 16 = fk) (e_tk0 : G 11 = tk0) (e_li : G 3 = li) (e_sy : G 19 = sy) (e_na : G 28 = na) (e_vi : G 29 = vi) (p_0 : at0 ≤ le) (p_1 : ln < li) (p_2 : fk = 0) (p_3 : sy ≤ na + 2) (p_4 : vi ≤ sy) : wk X dd 294 [.ref 66] (rV c0 c1 G A T) (fun o V' => ∃ (G' : Nat → Int) (A' : Nat → Nat → Int) (at2 : Int) (fk2 : Int) (ln2 : Int) (sy2 : Int) (na2 : Int) (vi2 : Int), V' = rV c0 c1 G' A' T ∧ o = .inl none ∧ Wk G' A' ∧ Fr [9, 10, 11, 12, 13, 14, 16, 17, 18, 19, 28, 29] [6, 7, 8, 9, 10, 11, 12, 14] G A G' A' ∧ G' 10 = at2 ∧ G' 16 = fk2 ∧ G' 9 = ln2 ∧ G' 19 = sy2 ∧ G' 28 = na2 ∧ G' 29 = vi2 ∧ (at0 ≤ at2) ∧ (at2 ≤ le) ∧ (sy ≤ sy2) ∧ (sy2 ≤ na2 + 2) ∧ (vi ≤ vi2) ∧ (vi2 - vi ≤ sy2 - sy) ∧ (((1 ≤ fk2) ∧ (ln2 = ln ∨ ln2 = ln + 1)) ∨ ((fk2 = 0) ∧ (ln2 = ln + 1)))) := by
  obtain ⟨d, rfl⟩ : ∃ d, dd = d + 1 := ⟨dd - 1, by omega⟩
  refine wk_of (e := jm294) rfl (Nat.le_of_ble_eq_true rfl) ?_
  show wj X d jm294 (0, [(0, .ref 66)], [], rV c0 c1 G A T) _
  have hF0 : Fr [9, 10, 11, 12, 13, 14, 16, 17, 18, 19, 28, 29] [6, 7, 8, 9, 10, 11, 12, 14] G A G A := Fr_rf
  have b_ln : (0 : Int) ≤ ln ∧ ln ≤ 3000 := e_ln ▸ hW.1 9
  have b_le : (0 : Int) ≤ le ∧ le ≤ 3000 := e_le ▸ hW.2 4 _
  have b_at0 : (0 : Int) ≤ at0 ∧ at0 ≤ 3002 := e_at0 ▸ hW.1 10
  have b_fk : (0 : Int) ≤ fk ∧ fk ≤ 6 := e_fk ▸ hW.1 16
  have b_tk0 : (0 : Int) ≤ tk0 ∧ tk0 ≤ 5 := e_tk0 ▸ hW.1 11
  have b_li : (0 : Int) ≤ li ∧ li ≤ 3000 := e_li ▸ hW.1 3
  have b_sy : (0 : Int) ≤ sy ∧ sy ≤ 202 := e_sy ▸ hW.1 19
  have b_na : (0 : Int) ≤ na ∧ na ≤ 200 := e_na ▸ hW.1 28
  have b_vi : (0 : Int) ≤ vi ∧ vi ≤ 202 := e_vi ▸ hW.1 29
  have at_233 : ∀ (m : Nat) (L : jL) (Gx : Nat → Int) (Ax : Nat → Nat → Int) (fr s8 at4 fk4 ln4 sy4 na4 vi4 : Int), (sy4 - s8).toNat = m → jGet L 0 = some (.ref 66) → jGet L 5 = some (.int (i32 fr)) → jGet L 7 = some (.int (i32 s8)) → Wk Gx Ax → Fr [9, 10, 11, 12, 13, 14, 16, 17, 18, 19, 28, 29] [6, 7, 8, 9, 10, 11, 12, 14] G A Gx Ax → Gx 10 = at4 → Gx 16 = fk4 → Gx 9 = ln4 → Gx 19 = sy4 → Gx 28 = na4 → Gx 29 = vi4 → ((-2147483648 : Int) ≤ fr ∧ fr ≤ 2147483647) → ((-2147483648 : Int) ≤ s8 ∧ s8 ≤ 2147483647) → (fr = sy) → (at0 ≤ at4) → (at4 ≤ le) → (ln4 = ln ∨ ln4 = ln + 1) → (1 ≤ fk4 ∨ ln4 = ln + 1) → (sy ≤ sy4) → (sy4 ≤ na4 + 2) → (sy ≤ s8 ∧ s8 ≤ sy4) → (vi4 - vi = s8 - sy) → wj X d jm294 (233, L, [], rV c0 c1 Gx Ax T) (fun o V' => ∃ (G' : Nat → Int) (A' : Nat → Nat → Int) (at2 : Int) (fk2 : Int) (ln2 : Int) (sy2 : Int) (na2 : Int) (vi2 : Int), V' = rV c0 c1 G' A' T ∧ o = .inl none ∧ Wk G' A' ∧ Fr [9, 10, 11, 12, 13, 14, 16, 17, 18, 19, 28, 29] [6, 7, 8, 9, 10, 11, 12, 14] G A G' A' ∧ G' 10 = at2 ∧ G' 16 = fk2 ∧ G' 9 = ln2 ∧ G' 19 = sy2 ∧ G' 28 = na2 ∧ G' 29 = vi2 ∧ (at0 ≤ at2) ∧ (at2 ≤ le) ∧ (sy ≤ sy2) ∧ (sy2 ≤ na2 + 2) ∧ (vi ≤ vi2) ∧ (vi2 - vi ≤ sy2 - sy) ∧ (((1 ≤ fk2) ∧ (ln2 = ln ∨ ln2 = ln + 1)) ∨ ((fk2 = 0) ∧ (ln2 = ln + 1)))) := by
    intro m
    induction m using Nat.strongRecOn with
    | ind m ih233 =>
      intro L Gx Ax fr s8 at4 fk4 ln4 sy4 na4 vi4 hm gL_0 gL_5 gL_7 hWx hFx ex_at4 ex_fk4 ex_ln4 ex_sy4 ex_na4 ex_vi4 rx_fr rx_s8 iv_0 iv_1 iv_2 iv_3 iv_4 iv_5 iv_6 iv_7 iv_8
      have b_at4 : (0 : Int) ≤ at4 ∧ at4 ≤ 3002 := ex_at4 ▸ hWx.1 10
      have z_fk4 := tz_f fk4
      have b_fk4 : (0 : Int) ≤ fk4 ∧ fk4 ≤ 6 := ex_fk4 ▸ hWx.1 16
      have b_ln4 : (0 : Int) ≤ ln4 ∧ ln4 ≤ 3000 := ex_ln4 ▸ hWx.1 9
      have b_sy4 : (0 : Int) ≤ sy4 ∧ sy4 ≤ 202 := ex_sy4 ▸ hWx.1 19
      have b_na4 : (0 : Int) ≤ na4 ∧ na4 ≤ 200 := ex_na4 ▸ hWx.1 28
      have b_vi4 : (0 : Int) ≤ vi4 ∧ vi4 ≤ 202 := ex_vi4 ▸ hWx.1 29
      refine jx_ld (pc' := 235) (l' := L) (st' := [.int (i32 (s8))]) rfl (jl_iload gL_7) ?_
      refine jx_ld (pc' := 236) (l' := L) (st' := [.ref 66, .int (i32 (s8))]) rfl (jl_aloadn gL_0) ?_
      refine jr_get (pc' := 239) (i := 19) (v := .int (i32 (sy4))) rfl rfl (by decide) (rFv_eq (by decide) (show Gx 19 = sy4 from (ex_sy4))) rfl ?_
      refine jx_icmp_ge (pc' := 242) (tg := 261) rfl rfl rfl (Int.le_trans (by decide : (-2147483648 : Int) ≤ -2147483648) rx_s8.1) (Int.le_trans rx_s8.2 (by decide : (2147483647 : Int) ≤ 2147483647)) (Int.le_trans (by decide : (-2147483648 : Int) ≤ 0) b_sy4.1) (Int.le_trans b_sy4.2 (by decide : (202 : Int) ≤ 2147483647)) (fun h1 => ?_) (fun h1 => ?_)
      · have _q := h1
        rcases (by omega : fk4 = 0 ∨ 1 ≤ fk4) with z2 | z2
        · have _q := z2
          refine jx_rt (v := none) rfl rfl rfl rfl rfl rfl ?_
          exact ⟨_, _, at4, fk4, ln4, sy4, na4, vi4, rfl, rfl, hWx, hFx, (ex_at4), (ex_fk4), (ex_ln4), (ex_sy4), (ex_na4), (ex_vi4), by omega, by omega, by omega, by omega, by omega, by omega, by first | exact Or.inl (⟨by omega, by omega⟩) | exact Or.inr ((⟨by omega, by omega⟩))⟩
        · have _q := z2
          refine jx_rt (v := none) rfl rfl rfl rfl rfl rfl ?_
          exact ⟨_, _, at4, fk4, ln4, sy4, na4, vi4, rfl, rfl, hWx, hFx, (ex_at4), (ex_fk4), (ex_ln4), (ex_sy4), (ex_na4), (ex_vi4), by omega, by omega, by omega, by omega, by omega, by omega, by first | exact Or.inl (⟨by omega, by omega⟩) | exact Or.inr ((⟨by omega, by omega⟩))⟩
      · have _q := h1
        refine jx_ld (pc' := 243) (l' := L) (st' := [.ref 66]) rfl (jl_aloadn gL_0) ?_
        refine jx_vr (pc' := 246) (as := []) (st := []) rfl rfl rfl rfl ⟨rfl, rfl, Nat.le_of_ble_eq_true rfl⟩ rfl rfl (c_bad (dd := d) (hd := by omega) (hW := hWx)  (fk := fk4) (e_fk := show Gx 16 = fk4 from (ex_fk4))    ) (fun o V' hq => ?_)
        obtain ⟨r3, rfl, rfl, b4, q5⟩ := hq
        refine .inr ⟨_, rfl, ?_⟩
        rcases q5 with ⟨rfl, a6⟩ | ⟨rfl, a7⟩
        · have _q : True := trivial
          refine jx_if_ne (pc' := 249) (tg := 261) rfl rfl rfl (by decide) (by decide) (fun h8 => ?_) (fun h8 => ?_)
          · have _q := h8
            refine jx_rt (v := none) rfl rfl rfl rfl rfl rfl ?_
            exact ⟨_, _, at4, fk4, ln4, sy4, na4, vi4, rfl, rfl, hWx, hFx, (ex_at4), (ex_fk4), (ex_ln4), (ex_sy4), (ex_na4), (ex_vi4), by omega, by omega, by omega, by omega, by omega, by omega, by first | exact Or.inl (⟨by omega, by omega⟩) | exact Or.inr ((⟨by omega, by omega⟩))⟩
          · have _q := h8
            exact absurd h8 (by omega)
        · have _q : True := trivial
          refine jx_if_ne (pc' := 249) (tg := 261) rfl rfl rfl (by decide) (by decide) (fun h9 => ?_) (fun h9 => ?_)
          · have _q := h9
            exact absurd h9 (by omega)
          · have _q := h9
            refine jx_ld (pc' := 250) (l' := L) (st' := [.ref 66]) rfl (jl_aloadn gL_0) ?_
            refine jx_ld (pc' := 252) (l' := L) (st' := [.int (i32 (s8)), .ref 66]) rfl (jl_iload gL_7) ?_
            refine jx_vr (pc' := 255) (as := [.int (i32 (s8))]) (st := []) rfl rfl rfl rfl ⟨rfl, rfl, Nat.le_of_ble_eq_true rfl⟩ rfl rfl (c_show (dd := d) (hd := by omega) (hW := hWx) (s := s8) (vi := vi4) (e_vi := show Gx 29 = vi4 from (ex_vi4))  (h_s := ⟨(Int.le_trans (by decide : (-2147483648 : Int) ≤ -2147483648) rx_s8.1), (Int.le_trans rx_s8.2 (by decide : (2147483647 : Int) ≤ 2147483647))⟩)  (p_0 := by omega) (p_1 := by omega)) (fun o V' hq => ?_)
            obtain ⟨G10, A11, vi2_12, rfl, rfl, hW13, hF14, e15, p16, -⟩ := hq
            have hF18 := Fr_tr hFx hF14 (Fr_sub (by decide)) (Fr_sub (by decide))
            have bvi2_12 : (0 : Int) ≤ vi2_12 ∧ vi2_12 ≤ 202 := e15 ▸ hW13.1 29
            refine .inl ⟨rfl, ?_⟩
            refine jx_inc (pc' := 258) (l' := jSto1 L 7 (.int (i32 ((s8 + (1)))))) (x := s8) rfl gL_7 (by decide) rfl rfl ?_
            obtain ⟨L19, eL19⟩ : ∃ q, q = jSto1 L 7 (.int (i32 ((s8 + (1))))) := ⟨_, rfl⟩
            rw [← eL19]
            have gL19_0 : jGet L19 0 = some (.ref 66) := eL19 ▸ jg_ne (by decide) gL_0 rfl
            have gL19_5 : jGet L19 5 = some (.int (i32 (fr))) := eL19 ▸ jg_ne (by decide) gL_5 rfl
            have gL19_7 : jGet L19 7 = some (.int (i32 ((s8 + (1))))) := eL19 ▸ jg_eq
            refine jx_go (tg := 233) rfl rfl ?_
            have z20 := tz_f (fk4)
            exact ih233 _ (by omega) L19 G10 A11 (fr) ((s8 + (1))) (at4) (fk4) (ln4) (sy4) (na4) (vi2_12) rfl gL19_0 gL19_5 gL19_7 hW13 hF18 (((hF14.1 10 rfl).trans (ex_at4))) (((hF14.1 16 rfl).trans (ex_fk4))) (((hF14.1 9 rfl).trans (ex_ln4))) (((hF14.1 19 rfl).trans (ex_sy4))) (((hF14.1 28 rfl).trans (ex_na4))) ((e15)) (by omega) (by omega) (by omega) (by omega) (by omega) (by omega) (by omega) (by omega) (by omega) (by omega) (by omega)
  have at_215 : ∀ (L : jL) (Gx : Nat → Int) (Ax : Nat → Nat → Int) (fr at1 tk1 fk1 sy1 na1 : Int), jGet L 0 = some (.ref 66) → jGet L 5 = some (.int (i32 fr)) → Wk Gx Ax → Fr [9, 10, 11, 12, 13, 14, 16, 17, 18, 19, 28, 29] [6, 7, 8, 9, 10, 11, 12, 14] G A Gx Ax → Gx 10 = at1 → Gx 11 = tk1 → Gx 16 = fk1 → Gx 19 = sy1 → Gx 28 = na1 → Gx 9 = ln → Gx 29 = vi → ((-2147483648 : Int) ≤ fr ∧ fr ≤ 2147483647) → (at0 ≤ at1) → (at1 ≤ le) → (fr = sy) → (sy ≤ sy1) → (sy1 ≤ na1 + 2) → wj X d jm294 (215, L, [], rV c0 c1 Gx Ax T) (fun o V' => ∃ (G' : Nat → Int) (A' : Nat → Nat → Int) (at2 : Int) (fk2 : Int) (ln2 : Int) (sy2 : Int) (na2 : Int) (vi2 : Int), V' = rV c0 c1 G' A' T ∧ o = .inl none ∧ Wk G' A' ∧ Fr [9, 10, 11, 12, 13, 14, 16, 17, 18, 19, 28, 29] [6, 7, 8, 9, 10, 11, 12, 14] G A G' A' ∧ G' 10 = at2 ∧ G' 16 = fk2 ∧ G' 9 = ln2 ∧ G' 19 = sy2 ∧ G' 28 = na2 ∧ G' 29 = vi2 ∧ (at0 ≤ at2) ∧ (at2 ≤ le) ∧ (sy ≤ sy2) ∧ (sy2 ≤ na2 + 2) ∧ (vi ≤ vi2) ∧ (vi2 - vi ≤ sy2 - sy) ∧ (((1 ≤ fk2) ∧ (ln2 = ln ∨ ln2 = ln + 1)) ∨ ((fk2 = 0) ∧ (ln2 = ln + 1)))) := by
    intro L Gx Ax fr at1 tk1 fk1 sy1 na1 gL_0 gL_5 hWx hFx ex_at1 ex_tk1 ex_fk1 ex_sy1 ex_na1 fx_9 fx_29 rx_fr iv_0 iv_1 iv_2 iv_3 iv_4
    have b_at1 : (0 : Int) ≤ at1 ∧ at1 ≤ 3002 := ex_at1 ▸ hWx.1 10
    have z_tk1 := tz_f tk1
    have b_tk1 : (0 : Int) ≤ tk1 ∧ tk1 ≤ 5 := ex_tk1 ▸ hWx.1 11
    have z_fk1 := tz_f fk1
    have b_fk1 : (0 : Int) ≤ fk1 ∧ fk1 ≤ 6 := ex_fk1 ▸ hWx.1 16
    have b_sy1 : (0 : Int) ≤ sy1 ∧ sy1 ≤ 202 := ex_sy1 ▸ hWx.1 19
    have b_na1 : (0 : Int) ≤ na1 ∧ na1 ≤ 200 := ex_na1 ▸ hWx.1 28
    refine jx_ld (pc' := 216) (l' := L) (st' := [.ref 66]) rfl (jl_aloadn gL_0) ?_
    refine jx_ld (pc' := 217) (l' := L) (st' := [.ref 66, .ref 66]) rfl (jl_aloadn gL_0) ?_
    refine jx_ar (pc' := 219) (st' := [.int (i32 (58)), .ref 66, .ref 66]) rfl rfl rfl rfl ?_
    have b21 : (-2147483648 : Int) ≤ Gx 13 ∧ Gx 13 ≤ 2147483647 := hWx.1 13
    refine jx_vr (pc' := 222) (as := [.int (i32 (58))]) (st := [.ref 66]) rfl rfl rfl rfl ⟨rfl, rfl, Nat.le_of_ble_eq_true rfl⟩ rfl rfl (c_is (dd := d) (hd := by omega) (hW := hWx) (k := 58) (tk := tk1) (e_tk := show Gx 11 = tk1 from (ex_tk1)) (tn := Gx 13) (e_tn := show Gx 13 = Gx 13 from rfl)  (h_k := ⟨(by decide), (by decide)⟩)  ) (fun o V' hq => ?_)
    obtain ⟨r22, rfl, rfl, b23, q24⟩ := hq
    refine .inr ⟨_, rfl, ?_⟩
    rcases q24 with ⟨rfl, a25, a26, a27⟩ | rfl
    · have _q : True := trivial
      refine jx_vr (pc' := 225) (as := [.int (i32 (1))]) (st := []) rfl rfl rfl rfl ⟨rfl, rfl, Nat.le_of_ble_eq_true rfl⟩ rfl rfl (c_need (dd := d) (hd := by omega) (hW := hWx) (g := 1) (ln := ln) (e_ln := show Gx 9 = ln from (fx_9)) (le := le) (e_le := show Ax 4 (ln).toNat = le from (congrFun (hFx.2 4 rfl) _).trans (e_le)) (at0 := at1) (e_at0 := show Gx 10 = at1 from (ex_at1)) (fk := fk1) (e_fk := show Gx 16 = fk1 from (ex_fk1)) (tk0 := tk1) (e_tk0 := show Gx 11 = tk1 from (ex_tk1))  (h_g := ⟨(by decide), (by decide)⟩)  (p_0 := by omega)) (fun o V' hq => ?_)
      obtain ⟨G28, A29, at2_30, tk2_31, fk2_32, rfl, rfl, hW33, hF34, e35, e36, e37, p38, p39, q40⟩ := hq
      have hF41 := Fr_tr hFx hF34 (Fr_sub (by decide)) (Fr_sub (by decide))
      have bat2_30 : (0 : Int) ≤ at2_30 ∧ at2_30 ≤ 3002 := e35 ▸ hW33.1 10
      have ztk2_31 := tz_b tk2_31
      have btk2_31 : (0 : Int) ≤ tk2_31 ∧ tk2_31 ≤ 5 := e36 ▸ hW33.1 11
      have zfk2_32 := tz_f fk2_32
      have bfk2_32 : (0 : Int) ≤ fk2_32 ∧ fk2_32 ≤ 6 := e37 ▸ hW33.1 16
      refine .inl ⟨rfl, ?_⟩
      rcases q40 with ⟨a42, a43, a44, a45⟩ | ⟨a46, a47, a48, a49⟩
      · have _q : True := trivial
        refine jx_ld (pc' := 226) (l' := L) (st' := [.ref 66]) rfl (jl_aloadn gL_0) ?_
        refine jx_vr (pc' := 229) (as := []) (st := []) rfl rfl rfl rfl ⟨rfl, rfl, Nat.le_of_ble_eq_true rfl⟩ rfl rfl (c_endLine (dd := d) (hd := by omega) (hW := hW33)  (ln := ln) (e_ln := show G28 9 = ln from ((hF34.1 9 rfl).trans (fx_9))) (li := li) (e_li := show G28 3 = li from ((hF34.1 3 rfl).trans ((hFx.1 3 rfl).trans (e_li)))) (fk := fk2_32) (e_fk := show G28 16 = fk2_32 from (e37)) (tk0 := tk2_31) (e_tk0 := show G28 11 = tk2_31 from (e36))    (p_0 := by omega)) (fun o V' hq => ?_)
        obtain ⟨G50, A51, ln2_52, fk2_53, rfl, rfl, hW54, hF55, e56, e57, q58⟩ := hq
        have hF59 := Fr_tr hF41 hF55 (Fr_sub (by decide)) (Fr_sub (by decide))
        have bln2_52 : (0 : Int) ≤ ln2_52 ∧ ln2_52 ≤ 3000 := e56 ▸ hW54.1 9
        have zfk2_53 := tz_f fk2_53
        have bfk2_53 : (0 : Int) ≤ fk2_53 ∧ fk2_53 ≤ 6 := e57 ▸ hW54.1 16
        refine .inl ⟨rfl, ?_⟩
        rcases q58 with ⟨a60, a61, a62, a63, a64⟩ | ⟨a65, a66⟩
        · have _q : True := trivial
          exfalso
          omega
        · have _q : True := trivial
          refine jx_ld (pc' := 231) (l' := L) (st' := [.int (i32 (fr))]) rfl (jl_iload gL_5) ?_
          refine jx_ld (pc' := 233) (l' := jSto1 L 7 (.int (i32 (fr)))) (st' := []) rfl rfl ?_
          obtain ⟨L67, eL67⟩ : ∃ q, q = jSto1 L 7 (.int (i32 (fr))) := ⟨_, rfl⟩
          rw [← eL67]
          have gL67_0 : jGet L67 0 = some (.ref 66) := eL67 ▸ jg_ne (by decide) gL_0 rfl
          have gL67_5 : jGet L67 5 = some (.int (i32 (fr))) := eL67 ▸ jg_ne (by decide) gL_5 rfl
          have gL67_7 : jGet L67 7 = some (.int (i32 (fr))) := eL67 ▸ jg_eq
          have z68 := tz_f (fk2_53)
          exact at_233 _ L67 G50 A51 (fr) (fr) (at2_30) (fk2_53) (ln2_52) (sy1) (na1) (vi) rfl gL67_0 gL67_5 gL67_7 hW54 hF59 (((hF55.1 10 rfl).trans (e35))) ((e57)) ((e56)) (((hF55.1 19 rfl).trans ((hF34.1 19 rfl).trans (ex_sy1)))) (((hF55.1 28 rfl).trans ((hF34.1 28 rfl).trans (ex_na1)))) (((hF55.1 29 rfl).trans ((hF34.1 29 rfl).trans (fx_29)))) (by omega) (by omega) (by omega) (by omega) (by omega) (by omega) (by omega) (by omega) (by omega) (by omega) (by omega)
      · have _q : True := trivial
        refine jx_ld (pc' := 226) (l' := L) (st' := [.ref 66]) rfl (jl_aloadn gL_0) ?_
        refine jx_vr (pc' := 229) (as := []) (st := []) rfl rfl rfl rfl ⟨rfl, rfl, Nat.le_of_ble_eq_true rfl⟩ rfl rfl (c_endLine (dd := d) (hd := by omega) (hW := hW33)  (ln := ln) (e_ln := show G28 9 = ln from ((hF34.1 9 rfl).trans (fx_9))) (li := li) (e_li := show G28 3 = li from ((hF34.1 3 rfl).trans ((hFx.1 3 rfl).trans (e_li)))) (fk := fk2_32) (e_fk := show G28 16 = fk2_32 from (e37)) (tk0 := tk2_31) (e_tk0 := show G28 11 = tk2_31 from (e36))    (p_0 := by omega)) (fun o V' hq => ?_)
        obtain ⟨G69, A70, ln2_71, fk2_72, rfl, rfl, hW73, hF74, e75, e76, q77⟩ := hq
        have hF78 := Fr_tr hF41 hF74 (Fr_sub (by decide)) (Fr_sub (by decide))
        have bln2_71 : (0 : Int) ≤ ln2_71 ∧ ln2_71 ≤ 3000 := e75 ▸ hW73.1 9
        have zfk2_72 := tz_f fk2_72
        have bfk2_72 : (0 : Int) ≤ fk2_72 ∧ fk2_72 ≤ 6 := e76 ▸ hW73.1 16
        refine .inl ⟨rfl, ?_⟩
        rcases q77 with ⟨a79, a80, a81, a82, a83⟩ | ⟨a84, a85⟩
        · have _q : True := trivial
          refine jx_ld (pc' := 231) (l' := L) (st' := [.int (i32 (fr))]) rfl (jl_iload gL_5) ?_
          refine jx_ld (pc' := 233) (l' := jSto1 L 7 (.int (i32 (fr)))) (st' := []) rfl rfl ?_
          obtain ⟨L86, eL86⟩ : ∃ q, q = jSto1 L 7 (.int (i32 (fr))) := ⟨_, rfl⟩
          rw [← eL86]
          have gL86_0 : jGet L86 0 = some (.ref 66) := eL86 ▸ jg_ne (by decide) gL_0 rfl
          have gL86_5 : jGet L86 5 = some (.int (i32 (fr))) := eL86 ▸ jg_ne (by decide) gL_5 rfl
          have gL86_7 : jGet L86 7 = some (.int (i32 (fr))) := eL86 ▸ jg_eq
          have z87 := tz_f (fk2_72)
          exact at_233 _ L86 G69 A70 (fr) (fr) (at2_30) (fk2_72) (ln2_71) (sy1) (na1) (vi) rfl gL86_0 gL86_5 gL86_7 hW73 hF78 (((hF74.1 10 rfl).trans (e35))) ((e76)) ((e75)) (((hF74.1 19 rfl).trans ((hF34.1 19 rfl).trans (ex_sy1)))) (((hF74.1 28 rfl).trans ((hF34.1 28 rfl).trans (ex_na1)))) (((hF74.1 29 rfl).trans ((hF34.1 29 rfl).trans (fx_29)))) (by omega) (by omega) (by omega) (by omega) (by omega) (by omega) (by omega) (by omega) (by omega) (by omega) (by omega)
        · have _q : True := trivial
          refine jx_ld (pc' := 231) (l' := L) (st' := [.int (i32 (fr))]) rfl (jl_iload gL_5) ?_
          refine jx_ld (pc' := 233) (l' := jSto1 L 7 (.int (i32 (fr)))) (st' := []) rfl rfl ?_
          obtain ⟨L88, eL88⟩ : ∃ q, q = jSto1 L 7 (.int (i32 (fr))) := ⟨_, rfl⟩
          rw [← eL88]
          have gL88_0 : jGet L88 0 = some (.ref 66) := eL88 ▸ jg_ne (by decide) gL_0 rfl
          have gL88_5 : jGet L88 5 = some (.int (i32 (fr))) := eL88 ▸ jg_ne (by decide) gL_5 rfl
          have gL88_7 : jGet L88 7 = some (.int (i32 (fr))) := eL88 ▸ jg_eq
          have z89 := tz_f (fk2_72)
          exact at_233 _ L88 G69 A70 (fr) (fr) (at2_30) (fk2_72) (ln2_71) (sy1) (na1) (vi) rfl gL88_0 gL88_5 gL88_7 hW73 hF78 (((hF74.1 10 rfl).trans (e35))) ((e76)) ((e75)) (((hF74.1 19 rfl).trans ((hF34.1 19 rfl).trans (ex_sy1)))) (((hF74.1 28 rfl).trans ((hF34.1 28 rfl).trans (ex_na1)))) (((hF74.1 29 rfl).trans ((hF34.1 29 rfl).trans (fx_29)))) (by omega) (by omega) (by omega) (by omega) (by omega) (by omega) (by omega) (by omega) (by omega) (by omega) (by omega)
    · have _q : True := trivial
      refine jx_vr (pc' := 225) (as := [.int (i32 (0))]) (st := []) rfl rfl rfl rfl ⟨rfl, rfl, Nat.le_of_ble_eq_true rfl⟩ rfl rfl (c_need (dd := d) (hd := by omega) (hW := hWx) (g := 0) (ln := ln) (e_ln := show Gx 9 = ln from (fx_9)) (le := le) (e_le := show Ax 4 (ln).toNat = le from (congrFun (hFx.2 4 rfl) _).trans (e_le)) (at0 := at1) (e_at0 := show Gx 10 = at1 from (ex_at1)) (fk := fk1) (e_fk := show Gx 16 = fk1 from (ex_fk1)) (tk0 := tk1) (e_tk0 := show Gx 11 = tk1 from (ex_tk1))  (h_g := ⟨(by decide), (by decide)⟩)  (p_0 := by omega)) (fun o V' hq => ?_)
      obtain ⟨G90, A91, at2_92, tk2_93, fk2_94, rfl, rfl, hW95, hF96, e97, e98, e99, p100, p101, q102⟩ := hq
      have hF103 := Fr_tr hFx hF96 (Fr_sub (by decide)) (Fr_sub (by decide))
      have bat2_92 : (0 : Int) ≤ at2_92 ∧ at2_92 ≤ 3002 := e97 ▸ hW95.1 10
      have ztk2_93 := tz_b tk2_93
      have btk2_93 : (0 : Int) ≤ tk2_93 ∧ tk2_93 ≤ 5 := e98 ▸ hW95.1 11
      have zfk2_94 := tz_f fk2_94
      have bfk2_94 : (0 : Int) ≤ fk2_94 ∧ fk2_94 ≤ 6 := e99 ▸ hW95.1 16
      refine .inl ⟨rfl, ?_⟩
      rcases q102 with ⟨a104, a105, a106, a107⟩ | ⟨a108, a109, a110, a111⟩
      · have _q : True := trivial
        refine jx_ld (pc' := 226) (l' := L) (st' := [.ref 66]) rfl (jl_aloadn gL_0) ?_
        refine jx_vr (pc' := 229) (as := []) (st := []) rfl rfl rfl rfl ⟨rfl, rfl, Nat.le_of_ble_eq_true rfl⟩ rfl rfl (c_endLine (dd := d) (hd := by omega) (hW := hW95)  (ln := ln) (e_ln := show G90 9 = ln from ((hF96.1 9 rfl).trans (fx_9))) (li := li) (e_li := show G90 3 = li from ((hF96.1 3 rfl).trans ((hFx.1 3 rfl).trans (e_li)))) (fk := fk2_94) (e_fk := show G90 16 = fk2_94 from (e99)) (tk0 := tk2_93) (e_tk0 := show G90 11 = tk2_93 from (e98))    (p_0 := by omega)) (fun o V' hq => ?_)
        obtain ⟨G112, A113, ln2_114, fk2_115, rfl, rfl, hW116, hF117, e118, e119, q120⟩ := hq
        have hF121 := Fr_tr hF103 hF117 (Fr_sub (by decide)) (Fr_sub (by decide))
        have bln2_114 : (0 : Int) ≤ ln2_114 ∧ ln2_114 ≤ 3000 := e118 ▸ hW116.1 9
        have zfk2_115 := tz_f fk2_115
        have bfk2_115 : (0 : Int) ≤ fk2_115 ∧ fk2_115 ≤ 6 := e119 ▸ hW116.1 16
        refine .inl ⟨rfl, ?_⟩
        rcases q120 with ⟨a122, a123, a124, a125, a126⟩ | ⟨a127, a128⟩
        · have _q : True := trivial
          exfalso
          omega
        · have _q : True := trivial
          refine jx_ld (pc' := 231) (l' := L) (st' := [.int (i32 (fr))]) rfl (jl_iload gL_5) ?_
          refine jx_ld (pc' := 233) (l' := jSto1 L 7 (.int (i32 (fr)))) (st' := []) rfl rfl ?_
          obtain ⟨L129, eL129⟩ : ∃ q, q = jSto1 L 7 (.int (i32 (fr))) := ⟨_, rfl⟩
          rw [← eL129]
          have gL129_0 : jGet L129 0 = some (.ref 66) := eL129 ▸ jg_ne (by decide) gL_0 rfl
          have gL129_5 : jGet L129 5 = some (.int (i32 (fr))) := eL129 ▸ jg_ne (by decide) gL_5 rfl
          have gL129_7 : jGet L129 7 = some (.int (i32 (fr))) := eL129 ▸ jg_eq
          have z130 := tz_f (fk2_115)
          exact at_233 _ L129 G112 A113 (fr) (fr) (at2_92) (fk2_115) (ln2_114) (sy1) (na1) (vi) rfl gL129_0 gL129_5 gL129_7 hW116 hF121 (((hF117.1 10 rfl).trans (e97))) ((e119)) ((e118)) (((hF117.1 19 rfl).trans ((hF96.1 19 rfl).trans (ex_sy1)))) (((hF117.1 28 rfl).trans ((hF96.1 28 rfl).trans (ex_na1)))) (((hF117.1 29 rfl).trans ((hF96.1 29 rfl).trans (fx_29)))) (by omega) (by omega) (by omega) (by omega) (by omega) (by omega) (by omega) (by omega) (by omega) (by omega) (by omega)
      · have _q : True := trivial
        exfalso
        omega
  have at_100 : ∀ (m : Nat) (L : jL) (Gx : Nat → Int) (Ax : Nat → Nat → Int) (many row kd fr more at1 tk1 fk1 sy1 na1 : Int), (6010 - (2 * at1 - tz tk1) - tz fk1).toNat = m → jGet L 0 = some (.ref 66) → jGet L 1 = some (.int (i32 many)) → jGet L 2 = some (.int (i32 row)) → jGet L 4 = some (.int (i32 kd)) → jGet L 5 = some (.int (i32 fr)) → jGet L 6 = some (.int (i32 more)) → Wk Gx Ax → Fr [9, 10, 11, 12, 13, 14, 16, 17, 18, 19, 28, 29] [6, 7, 8, 9, 10, 11, 12, 14] G A Gx Ax → Gx 10 = at1 → Gx 11 = tk1 → Gx 16 = fk1 → Gx 19 = sy1 → Gx 28 = na1 → Gx 9 = ln → Gx 29 = vi → ((-2147483648 : Int) ≤ many ∧ many ≤ 2147483647) → ((-2147483648 : Int) ≤ row ∧ row ≤ 2147483647) → ((-2147483648 : Int) ≤ kd ∧ kd ≤ 2147483647) → ((-2147483648 : Int) ≤ fr ∧ fr ≤ 2147483647) → ((-2147483648 : Int) ≤ more ∧ more ≤ 2147483647) → (at0 ≤ at1) → (at1 ≤ le) → (fr = sy) → (sy ≤ sy1) → (sy1 ≤ na1 + 2) → (0 ≤ more ∧ more ≤ 1) → (0 ≤ row ∧ row ≤ 1) → (1 ≤ kd ∧ kd ≤ 4) → wj X d jm294 (100, L, [], rV c0 c1 Gx Ax T) (fun o V' => ∃ (G' : Nat → Int) (A' : Nat → Nat → Int) (at2 : Int) (fk2 : Int) (ln2 : Int) (sy2 : Int) (na2 : Int) (vi2 : Int), V' = rV c0 c1 G' A' T ∧ o = .inl none ∧ Wk G' A' ∧ Fr [9, 10, 11, 12, 13, 14, 16, 17, 18, 19, 28, 29] [6, 7, 8, 9, 10, 11, 12, 14] G A G' A' ∧ G' 10 = at2 ∧ G' 16 = fk2 ∧ G' 9 = ln2 ∧ G' 19 = sy2 ∧ G' 28 = na2 ∧ G' 29 = vi2 ∧ (at0 ≤ at2) ∧ (at2 ≤ le) ∧ (sy ≤ sy2) ∧ (sy2 ≤ na2 + 2) ∧ (vi ≤ vi2) ∧ (vi2 - vi ≤ sy2 - sy) ∧ (((1 ≤ fk2) ∧ (ln2 = ln ∨ ln2 = ln + 1)) ∨ ((fk2 = 0) ∧ (ln2 = ln + 1)))) := by
    intro m
    induction m using Nat.strongRecOn with
    | ind m ih100 =>
      intro L Gx Ax many row kd fr more at1 tk1 fk1 sy1 na1 hm gL_0 gL_1 gL_2 gL_4 gL_5 gL_6 hWx hFx ex_at1 ex_tk1 ex_fk1 ex_sy1 ex_na1 fx_9 fx_29 rx_many rx_row rx_kd rx_fr rx_more iv_0 iv_1 iv_2 iv_3 iv_4 iv_5 iv_6 iv_7
      have b_at1 : (0 : Int) ≤ at1 ∧ at1 ≤ 3002 := ex_at1 ▸ hWx.1 10
      have z_tk1 := tz_f tk1
      have b_tk1 : (0 : Int) ≤ tk1 ∧ tk1 ≤ 5 := ex_tk1 ▸ hWx.1 11
      have z_fk1 := tz_f fk1
      have b_fk1 : (0 : Int) ≤ fk1 ∧ fk1 ≤ 6 := ex_fk1 ▸ hWx.1 16
      have b_sy1 : (0 : Int) ≤ sy1 ∧ sy1 ≤ 202 := ex_sy1 ▸ hWx.1 19
      have b_na1 : (0 : Int) ≤ na1 ∧ na1 ≤ 200 := ex_na1 ▸ hWx.1 28
      have at_134 : ∀ (m : Nat) (L : jL) (Gx : Nat → Int) (Ax : Nat → Nat → Int) (many row kd fr s7 at3 tk3 fk3 : Int), (sy1 - s7).toNat = m → jGet L 0 = some (.ref 66) → jGet L 1 = some (.int (i32 many)) → jGet L 2 = some (.int (i32 row)) → jGet L 4 = some (.int (i32 kd)) → jGet L 5 = some (.int (i32 fr)) → jGet L 7 = some (.int (i32 s7)) → Wk Gx Ax → Fr [9, 10, 11, 12, 13, 14, 16, 17, 18, 19, 28, 29] [6, 7, 8, 9, 10, 11, 12, 14] G A Gx Ax → Gx 10 = at3 → Gx 11 = tk3 → Gx 16 = fk3 → Gx 9 = ln → Gx 29 = vi → Gx 19 = sy1 → Gx 28 = na1 → ((-2147483648 : Int) ≤ many ∧ many ≤ 2147483647) → ((-2147483648 : Int) ≤ row ∧ row ≤ 2147483647) → ((-2147483648 : Int) ≤ kd ∧ kd ≤ 2147483647) → ((-2147483648 : Int) ≤ fr ∧ fr ≤ 2147483647) → ((-2147483648 : Int) ≤ s7 ∧ s7 ≤ 2147483647) → (tk1 = 1) → (fk1 = 0) → (at3 = at1) → (tk3 = tk1) → (tz tk3 = tz tk1) → (tz fk1 ≤ tz fk3) → (fr = sy) → (sy ≤ s7 ∧ s7 ≤ sy1) → (0 ≤ row ∧ row ≤ 1) → (1 ≤ kd ∧ kd ≤ 4) → wj X d jm294 (134, L, [], rV c0 c1 Gx Ax T) (fun o V' => ∃ (G' : Nat → Int) (A' : Nat → Nat → Int) (at2 : Int) (fk2 : Int) (ln2 : Int) (sy2 : Int) (na2 : Int) (vi2 : Int), V' = rV c0 c1 G' A' T ∧ o = .inl none ∧ Wk G' A' ∧ Fr [9, 10, 11, 12, 13, 14, 16, 17, 18, 19, 28, 29] [6, 7, 8, 9, 10, 11, 12, 14] G A G' A' ∧ G' 10 = at2 ∧ G' 16 = fk2 ∧ G' 9 = ln2 ∧ G' 19 = sy2 ∧ G' 28 = na2 ∧ G' 29 = vi2 ∧ (at0 ≤ at2) ∧ (at2 ≤ le) ∧ (sy ≤ sy2) ∧ (sy2 ≤ na2 + 2) ∧ (vi ≤ vi2) ∧ (vi2 - vi ≤ sy2 - sy) ∧ (((1 ≤ fk2) ∧ (ln2 = ln ∨ ln2 = ln + 1)) ∨ ((fk2 = 0) ∧ (ln2 = ln + 1)))) := by
        intro m
        induction m using Nat.strongRecOn with
        | ind m ih134 =>
          intro L Gx Ax many row kd fr s7 at3 tk3 fk3 hm gL_0 gL_1 gL_2 gL_4 gL_5 gL_7 hWx hFx ex_at3 ex_tk3 ex_fk3 fx_9 fx_29 fx_19 fx_28 rx_many rx_row rx_kd rx_fr rx_s7 iv_0 iv_1 iv_2 iv_3 iv_4 iv_5 iv_6 iv_7 iv_8 iv_9
          have b_at3 : (0 : Int) ≤ at3 ∧ at3 ≤ 3002 := ex_at3 ▸ hWx.1 10
          have z_tk3 := tz_f tk3
          have b_tk3 : (0 : Int) ≤ tk3 ∧ tk3 ≤ 5 := ex_tk3 ▸ hWx.1 11
          have z_fk3 := tz_f fk3
          have b_fk3 : (0 : Int) ≤ fk3 ∧ fk3 ≤ 6 := ex_fk3 ▸ hWx.1 16
          refine jx_ld (pc' := 136) (l' := L) (st' := [.int (i32 (s7))]) rfl (jl_iload gL_7) ?_
          refine jx_ld (pc' := 137) (l' := L) (st' := [.ref 66, .int (i32 (s7))]) rfl (jl_aloadn gL_0) ?_
          refine jr_get (pc' := 140) (i := 19) (v := .int (i32 (sy1))) rfl rfl (by decide) (rFv_eq (by decide) (show Gx 19 = sy1 from (fx_19))) rfl ?_
          refine jx_icmp_ge (pc' := 143) (tg := 173) rfl rfl rfl (Int.le_trans (by decide : (-2147483648 : Int) ≤ -2147483648) rx_s7.1) (Int.le_trans rx_s7.2 (by decide : (2147483647 : Int) ≤ 2147483647)) (by omega) (by omega) (fun h131 => ?_) (fun h131 => ?_)
          · have _q := h131
            refine jx_ld (pc' := 174) (l' := L) (st' := [.ref 66]) rfl (jl_aloadn gL_0) ?_
            refine jx_ld (pc' := 176) (l' := L) (st' := [.int (i32 (kd)), .ref 66]) rfl (jl_iload gL_4) ?_
            refine jx_ld (pc' := 177) (l' := L) (st' := [.int (i32 (row)), .int (i32 (kd)), .ref 66]) rfl (jl_iloadn gL_2) ?_
            refine jx_if_eq (pc' := 180) (tg := 184) rfl rfl rfl (Int.le_trans (by decide : (-2147483648 : Int) ≤ -2147483648) rx_row.1) (Int.le_trans rx_row.2 (by decide : (2147483647 : Int) ≤ 2147483647)) (fun h132 => ?_) (fun h132 => ?_)
            · have _q := h132
              refine jx_ar (pc' := 185) (st' := [.int (i32 (1)), .int (i32 (kd)), .ref 66]) rfl rfl rfl rfl ?_
              refine jx_vr (pc' := 188) (as := [.int (i32 (kd)), .int (i32 (1))]) (st := []) rfl rfl rfl rfl ⟨rfl, rfl, Nat.le_of_ble_eq_true rfl⟩ rfl rfl (c_newName (dd := d) (hd := by omega) (hW := hWx) (kind := kd) (many := 1) (sy := sy1) (e_sy := show Gx 19 = sy1 from (fx_19)) (na := na1) (e_na := show Gx 28 = na1 from (fx_28)) (fk := fk3) (e_fk := show Gx 16 = fk3 from (ex_fk3))  (h_kind := ⟨(Int.le_trans (by decide : (-2147483648 : Int) ≤ -2147483648) rx_kd.1), (Int.le_trans rx_kd.2 (by decide : (2147483647 : Int) ≤ 2147483647))⟩) (h_many := ⟨(by decide), (by decide)⟩)  (p_0 := by omega) (p_1 := by omega)) (fun o V' hq => ?_)
              obtain ⟨G133, A134, r135, sy2_136, na2_137, fk2_138, rfl, rfl, hW139, hF140, b141, e142, e143, e144, q145⟩ := hq
              have hF146 := Fr_tr hFx hF140 (Fr_sub (by decide)) (Fr_sub (by decide))
              have bsy2_136 : (0 : Int) ≤ sy2_136 ∧ sy2_136 ≤ 202 := e142 ▸ hW139.1 19
              have bna2_137 : (0 : Int) ≤ na2_137 ∧ na2_137 ≤ 200 := e143 ▸ hW139.1 28
              have zfk2_138 := tz_f fk2_138
              have bfk2_138 : (0 : Int) ≤ fk2_138 ∧ fk2_138 ≤ 6 := e144 ▸ hW139.1 16
              refine .inr ⟨_, rfl, ?_⟩
              rcases q145 with ⟨a147, a148, a149, a150, a151⟩ | ⟨a152, a153, a154, a155⟩
              · have _q : True := trivial
                refine jx_ld (pc' := 190) (l' := jSto1 L 7 (.int (i32 (r135)))) (st' := []) rfl rfl ?_
                obtain ⟨L156, eL156⟩ : ∃ q, q = jSto1 L 7 (.int (i32 (r135))) := ⟨_, rfl⟩
                rw [← eL156]
                have gL156_0 : jGet L156 0 = some (.ref 66) := eL156 ▸ jg_ne (by decide) gL_0 rfl
                have gL156_1 : jGet L156 1 = some (.int (i32 (many))) := eL156 ▸ jg_ne (by decide) gL_1 rfl
                have gL156_2 : jGet L156 2 = some (.int (i32 (row))) := eL156 ▸ jg_ne (by decide) gL_2 rfl
                have gL156_4 : jGet L156 4 = some (.int (i32 (kd))) := eL156 ▸ jg_ne (by decide) gL_4 rfl
                have gL156_5 : jGet L156 5 = some (.int (i32 (fr))) := eL156 ▸ jg_ne (by decide) gL_5 rfl
                have gL156_7 : jGet L156 7 = some (.int (i32 (r135))) := eL156 ▸ jg_eq
                refine jx_ld (pc' := 191) (l' := L156) (st' := [.ref 66]) rfl (jl_aloadn gL156_0) ?_
                refine jx_ar (pc' := 192) (st' := [.int (i32 (1)), .ref 66]) rfl rfl rfl rfl ?_
                refine jx_vr (pc' := 195) (as := [.int (i32 (1))]) (st := []) rfl rfl rfl rfl ⟨rfl, rfl, Nat.le_of_ble_eq_true rfl⟩ rfl rfl (c_need (dd := d) (hd := by omega) (hW := hW139) (g := 1) (ln := ln) (e_ln := show G133 9 = ln from ((hF140.1 9 rfl).trans (fx_9))) (le := le) (e_le := show A134 4 (ln).toNat = le from (congrFun ((hF140.2 4 rfl).trans (hFx.2 4 rfl)) _).trans (e_le)) (at0 := at3) (e_at0 := show G133 10 = at3 from ((hF140.1 10 rfl).trans (ex_at3))) (fk := fk2_138) (e_fk := show G133 16 = fk2_138 from (e144)) (tk0 := tk3) (e_tk0 := show G133 11 = tk3 from ((hF140.1 11 rfl).trans (ex_tk3)))  (h_g := ⟨(by decide), (by decide)⟩)  (p_0 := by omega)) (fun o V' hq => ?_)
                obtain ⟨G157, A158, at2_159, tk2_160, fk2_161, rfl, rfl, hW162, hF163, e164, e165, e166, p167, p168, q169⟩ := hq
                have hF170 := Fr_tr hF146 hF163 (Fr_sub (by decide)) (Fr_sub (by decide))
                have bat2_159 : (0 : Int) ≤ at2_159 ∧ at2_159 ≤ 3002 := e164 ▸ hW162.1 10
                have ztk2_160 := tz_b tk2_160
                have btk2_160 : (0 : Int) ≤ tk2_160 ∧ tk2_160 ≤ 5 := e165 ▸ hW162.1 11
                have zfk2_161 := tz_f fk2_161
                have bfk2_161 : (0 : Int) ≤ fk2_161 ∧ fk2_161 ≤ 6 := e166 ▸ hW162.1 16
                refine .inl ⟨rfl, ?_⟩
                rcases q169 with ⟨a171, a172, a173, a174⟩ | ⟨a175, a176, a177, a178⟩
                · have _q : True := trivial
                  refine jx_ld (pc' := 196) (l' := L156) (st' := [.ref 66]) rfl (jl_aloadn gL156_0) ?_
                  refine jx_ar (pc' := 198) (st' := [.int (i32 (44)), .ref 66]) rfl rfl rfl rfl ?_
                  have b179 : (-2147483648 : Int) ≤ G157 13 ∧ G157 13 ≤ 2147483647 := hW162.1 13
                  refine jx_vr (pc' := 201) (as := [.int (i32 (44))]) (st := []) rfl rfl rfl rfl ⟨rfl, rfl, Nat.le_of_ble_eq_true rfl⟩ rfl rfl (c_is (dd := d) (hd := by omega) (hW := hW162) (k := 44) (tk := tk2_160) (e_tk := show G157 11 = tk2_160 from (e165)) (tn := G157 13) (e_tn := show G157 13 = G157 13 from rfl)  (h_k := ⟨(by decide), (by decide)⟩)  ) (fun o V' hq => ?_)
                  obtain ⟨r180, rfl, rfl, b181, q182⟩ := hq
                  refine .inr ⟨_, rfl, ?_⟩
                  rcases q182 with ⟨rfl, a183, a184, a185⟩ | rfl
                  · have _q : True := trivial
                    refine jx_ld (pc' := 203) (l' := jSto1 L156 6 (.int (i32 (1)))) (st' := []) rfl rfl ?_
                    obtain ⟨L186, eL186⟩ : ∃ q, q = jSto1 L156 6 (.int (i32 (1))) := ⟨_, rfl⟩
                    rw [← eL186]
                    have gL186_0 : jGet L186 0 = some (.ref 66) := eL186 ▸ jg_ne (by decide) gL156_0 rfl
                    have gL186_1 : jGet L186 1 = some (.int (i32 (many))) := eL186 ▸ jg_ne (by decide) gL156_1 rfl
                    have gL186_2 : jGet L186 2 = some (.int (i32 (row))) := eL186 ▸ jg_ne (by decide) gL156_2 rfl
                    have gL186_4 : jGet L186 4 = some (.int (i32 (kd))) := eL186 ▸ jg_ne (by decide) gL156_4 rfl
                    have gL186_5 : jGet L186 5 = some (.int (i32 (fr))) := eL186 ▸ jg_ne (by decide) gL156_5 rfl
                    have gL186_7 : jGet L186 7 = some (.int (i32 (r135))) := eL186 ▸ jg_ne (by decide) gL156_7 rfl
                    have gL186_6 : jGet L186 6 = some (.int (i32 (1))) := eL186 ▸ jg_eq
                    refine jx_ld (pc' := 205) (l' := L186) (st' := [.int (i32 (1))]) rfl (jl_iload gL186_6) ?_
                    refine jx_if_eq (pc' := 208) (tg := 212) rfl rfl rfl (by decide) (by decide) (fun h187 => ?_) (fun h187 => ?_)
                    · have _q := h187
                      exact absurd h187 (by omega)
                    · have _q := h187
                      refine jx_ld (pc' := 209) (l' := L186) (st' := [.ref 66]) rfl (jl_aloadn gL186_0) ?_
                      refine jx_vr (pc' := 212) (as := []) (st := []) rfl rfl rfl rfl ⟨rfl, rfl, Nat.le_of_ble_eq_true rfl⟩ rfl rfl (c_next (dd := d) (hd := by omega) (hW := hW162)  (ln := ln) (e_ln := show G157 9 = ln from ((hF163.1 9 rfl).trans ((hF140.1 9 rfl).trans (fx_9)))) (le := le) (e_le := show A158 4 (ln).toNat = le from (congrFun ((hF163.2 4 rfl).trans ((hF140.2 4 rfl).trans (hFx.2 4 rfl))) _).trans (e_le)) (at0 := at2_159) (e_at0 := show G157 10 = at2_159 from (e164))    (p_0 := by omega)) (fun o V' hq => ?_)
                      obtain ⟨G188, A189, at2_190, tk2_191, rfl, rfl, hW192, hF193, e194, e195, p196, p197, p198, -⟩ := hq
                      have hF200 := Fr_tr hF170 hF193 (Fr_sub (by decide)) (Fr_sub (by decide))
                      have bat2_190 : (0 : Int) ≤ at2_190 ∧ at2_190 ≤ 3002 := e194 ▸ hW192.1 10
                      have ztk2_191 := tz_b tk2_191
                      have btk2_191 : (0 : Int) ≤ tk2_191 ∧ tk2_191 ≤ 5 := e195 ▸ hW192.1 11
                      refine .inl ⟨rfl, ?_⟩
                      refine jx_go (tg := 100) rfl rfl ?_
                      have z201 := tz_f (tk2_191)
                      have z202 := tz_f (fk2_161)
                      exact ih100 _ (by omega) L186 G188 A189 (many) (row) (kd) (fr) (1) (at2_190) (tk2_191) (fk2_161) (sy2_136) (na2_137) rfl gL186_0 gL186_1 gL186_2 gL186_4 gL186_5 gL186_6 hW192 hF200 ((e194)) ((e195)) (((hF193.1 16 rfl).trans (e166))) (((hF193.1 19 rfl).trans ((hF163.1 19 rfl).trans (e142)))) (((hF193.1 28 rfl).trans ((hF163.1 28 rfl).trans (e143)))) (((hF193.1 9 rfl).trans ((hF163.1 9 rfl).trans ((hF140.1 9 rfl).trans (fx_9))))) (((hF193.1 29 rfl).trans ((hF163.1 29 rfl).trans ((hF140.1 29 rfl).trans (fx_29))))) (by omega) (by omega) (by omega) (by omega) (by omega) (by omega) (by omega) (by omega) (by omega) (by omega) (by omega) (by omega) (by omega)
                  · have _q : True := trivial
                    refine jx_ld (pc' := 203) (l' := jSto1 L156 6 (.int (i32 (0)))) (st' := []) rfl rfl ?_
                    obtain ⟨L203, eL203⟩ : ∃ q, q = jSto1 L156 6 (.int (i32 (0))) := ⟨_, rfl⟩
                    rw [← eL203]
                    have gL203_0 : jGet L203 0 = some (.ref 66) := eL203 ▸ jg_ne (by decide) gL156_0 rfl
                    have gL203_1 : jGet L203 1 = some (.int (i32 (many))) := eL203 ▸ jg_ne (by decide) gL156_1 rfl
                    have gL203_2 : jGet L203 2 = some (.int (i32 (row))) := eL203 ▸ jg_ne (by decide) gL156_2 rfl
                    have gL203_4 : jGet L203 4 = some (.int (i32 (kd))) := eL203 ▸ jg_ne (by decide) gL156_4 rfl
                    have gL203_5 : jGet L203 5 = some (.int (i32 (fr))) := eL203 ▸ jg_ne (by decide) gL156_5 rfl
                    have gL203_7 : jGet L203 7 = some (.int (i32 (r135))) := eL203 ▸ jg_ne (by decide) gL156_7 rfl
                    have gL203_6 : jGet L203 6 = some (.int (i32 (0))) := eL203 ▸ jg_eq
                    refine jx_ld (pc' := 205) (l' := L203) (st' := [.int (i32 (0))]) rfl (jl_iload gL203_6) ?_
                    refine jx_if_eq (pc' := 208) (tg := 212) rfl rfl rfl (by decide) (by decide) (fun h204 => ?_) (fun h204 => ?_)
                    · have _q := h204
                      refine jx_go (tg := 100) rfl rfl ?_
                      have z205 := tz_f (tk2_160)
                      have z206 := tz_f (fk2_161)
                      exact ih100 _ (by omega) L203 G157 A158 (many) (row) (kd) (fr) (0) (at2_159) (tk2_160) (fk2_161) (sy2_136) (na2_137) rfl gL203_0 gL203_1 gL203_2 gL203_4 gL203_5 gL203_6 hW162 hF170 ((e164)) ((e165)) ((e166)) (((hF163.1 19 rfl).trans (e142))) (((hF163.1 28 rfl).trans (e143))) (((hF163.1 9 rfl).trans ((hF140.1 9 rfl).trans (fx_9)))) (((hF163.1 29 rfl).trans ((hF140.1 29 rfl).trans (fx_29)))) (by omega) (by omega) (by omega) (by omega) (by omega) (by omega) (by omega) (by omega) (by omega) (by omega) (by omega) (by omega) (by omega)
                    · have _q := h204
                      exact absurd h204 (by omega)
                · have _q : True := trivial
                  refine jx_ld (pc' := 196) (l' := L156) (st' := [.ref 66]) rfl (jl_aloadn gL156_0) ?_
                  refine jx_ar (pc' := 198) (st' := [.int (i32 (44)), .ref 66]) rfl rfl rfl rfl ?_
                  have b207 : (-2147483648 : Int) ≤ G157 13 ∧ G157 13 ≤ 2147483647 := hW162.1 13
                  refine jx_vr (pc' := 201) (as := [.int (i32 (44))]) (st := []) rfl rfl rfl rfl ⟨rfl, rfl, Nat.le_of_ble_eq_true rfl⟩ rfl rfl (c_is (dd := d) (hd := by omega) (hW := hW162) (k := 44) (tk := tk2_160) (e_tk := show G157 11 = tk2_160 from (e165)) (tn := G157 13) (e_tn := show G157 13 = G157 13 from rfl)  (h_k := ⟨(by decide), (by decide)⟩)  ) (fun o V' hq => ?_)
                  obtain ⟨r208, rfl, rfl, b209, q210⟩ := hq
                  refine .inr ⟨_, rfl, ?_⟩
                  rcases q210 with ⟨rfl, a211, a212, a213⟩ | rfl
                  · have _q : True := trivial
                    refine jx_ld (pc' := 203) (l' := jSto1 L156 6 (.int (i32 (1)))) (st' := []) rfl rfl ?_
                    obtain ⟨L214, eL214⟩ : ∃ q, q = jSto1 L156 6 (.int (i32 (1))) := ⟨_, rfl⟩
                    rw [← eL214]
                    have gL214_0 : jGet L214 0 = some (.ref 66) := eL214 ▸ jg_ne (by decide) gL156_0 rfl
                    have gL214_1 : jGet L214 1 = some (.int (i32 (many))) := eL214 ▸ jg_ne (by decide) gL156_1 rfl
                    have gL214_2 : jGet L214 2 = some (.int (i32 (row))) := eL214 ▸ jg_ne (by decide) gL156_2 rfl
                    have gL214_4 : jGet L214 4 = some (.int (i32 (kd))) := eL214 ▸ jg_ne (by decide) gL156_4 rfl
                    have gL214_5 : jGet L214 5 = some (.int (i32 (fr))) := eL214 ▸ jg_ne (by decide) gL156_5 rfl
                    have gL214_7 : jGet L214 7 = some (.int (i32 (r135))) := eL214 ▸ jg_ne (by decide) gL156_7 rfl
                    have gL214_6 : jGet L214 6 = some (.int (i32 (1))) := eL214 ▸ jg_eq
                    refine jx_ld (pc' := 205) (l' := L214) (st' := [.int (i32 (1))]) rfl (jl_iload gL214_6) ?_
                    refine jx_if_eq (pc' := 208) (tg := 212) rfl rfl rfl (by decide) (by decide) (fun h215 => ?_) (fun h215 => ?_)
                    · have _q := h215
                      exact absurd h215 (by omega)
                    · have _q := h215
                      refine jx_ld (pc' := 209) (l' := L214) (st' := [.ref 66]) rfl (jl_aloadn gL214_0) ?_
                      refine jx_vr (pc' := 212) (as := []) (st := []) rfl rfl rfl rfl ⟨rfl, rfl, Nat.le_of_ble_eq_true rfl⟩ rfl rfl (c_next (dd := d) (hd := by omega) (hW := hW162)  (ln := ln) (e_ln := show G157 9 = ln from ((hF163.1 9 rfl).trans ((hF140.1 9 rfl).trans (fx_9)))) (le := le) (e_le := show A158 4 (ln).toNat = le from (congrFun ((hF163.2 4 rfl).trans ((hF140.2 4 rfl).trans (hFx.2 4 rfl))) _).trans (e_le)) (at0 := at2_159) (e_at0 := show G157 10 = at2_159 from (e164))    (p_0 := by omega)) (fun o V' hq => ?_)
                      obtain ⟨G216, A217, at2_218, tk2_219, rfl, rfl, hW220, hF221, e222, e223, p224, p225, p226, -⟩ := hq
                      have hF228 := Fr_tr hF170 hF221 (Fr_sub (by decide)) (Fr_sub (by decide))
                      have bat2_218 : (0 : Int) ≤ at2_218 ∧ at2_218 ≤ 3002 := e222 ▸ hW220.1 10
                      have ztk2_219 := tz_b tk2_219
                      have btk2_219 : (0 : Int) ≤ tk2_219 ∧ tk2_219 ≤ 5 := e223 ▸ hW220.1 11
                      refine .inl ⟨rfl, ?_⟩
                      refine jx_go (tg := 100) rfl rfl ?_
                      have z229 := tz_f (tk2_219)
                      have z230 := tz_f (fk2_161)
                      exact ih100 _ (by omega) L214 G216 A217 (many) (row) (kd) (fr) (1) (at2_218) (tk2_219) (fk2_161) (sy2_136) (na2_137) rfl gL214_0 gL214_1 gL214_2 gL214_4 gL214_5 gL214_6 hW220 hF228 ((e222)) ((e223)) (((hF221.1 16 rfl).trans (e166))) (((hF221.1 19 rfl).trans ((hF163.1 19 rfl).trans (e142)))) (((hF221.1 28 rfl).trans ((hF163.1 28 rfl).trans (e143)))) (((hF221.1 9 rfl).trans ((hF163.1 9 rfl).trans ((hF140.1 9 rfl).trans (fx_9))))) (((hF221.1 29 rfl).trans ((hF163.1 29 rfl).trans ((hF140.1 29 rfl).trans (fx_29))))) (by omega) (by omega) (by omega) (by omega) (by omega) (by omega) (by omega) (by omega) (by omega) (by omega) (by omega) (by omega) (by omega)
                  · have _q : True := trivial
                    refine jx_ld (pc' := 203) (l' := jSto1 L156 6 (.int (i32 (0)))) (st' := []) rfl rfl ?_
                    obtain ⟨L231, eL231⟩ : ∃ q, q = jSto1 L156 6 (.int (i32 (0))) := ⟨_, rfl⟩
                    rw [← eL231]
                    have gL231_0 : jGet L231 0 = some (.ref 66) := eL231 ▸ jg_ne (by decide) gL156_0 rfl
                    have gL231_1 : jGet L231 1 = some (.int (i32 (many))) := eL231 ▸ jg_ne (by decide) gL156_1 rfl
                    have gL231_2 : jGet L231 2 = some (.int (i32 (row))) := eL231 ▸ jg_ne (by decide) gL156_2 rfl
                    have gL231_4 : jGet L231 4 = some (.int (i32 (kd))) := eL231 ▸ jg_ne (by decide) gL156_4 rfl
                    have gL231_5 : jGet L231 5 = some (.int (i32 (fr))) := eL231 ▸ jg_ne (by decide) gL156_5 rfl
                    have gL231_7 : jGet L231 7 = some (.int (i32 (r135))) := eL231 ▸ jg_ne (by decide) gL156_7 rfl
                    have gL231_6 : jGet L231 6 = some (.int (i32 (0))) := eL231 ▸ jg_eq
                    refine jx_ld (pc' := 205) (l' := L231) (st' := [.int (i32 (0))]) rfl (jl_iload gL231_6) ?_
                    refine jx_if_eq (pc' := 208) (tg := 212) rfl rfl rfl (by decide) (by decide) (fun h232 => ?_) (fun h232 => ?_)
                    · have _q := h232
                      refine jx_go (tg := 100) rfl rfl ?_
                      have z233 := tz_f (tk2_160)
                      have z234 := tz_f (fk2_161)
                      exact ih100 _ (by omega) L231 G157 A158 (many) (row) (kd) (fr) (0) (at2_159) (tk2_160) (fk2_161) (sy2_136) (na2_137) rfl gL231_0 gL231_1 gL231_2 gL231_4 gL231_5 gL231_6 hW162 hF170 ((e164)) ((e165)) ((e166)) (((hF163.1 19 rfl).trans (e142))) (((hF163.1 28 rfl).trans (e143))) (((hF163.1 9 rfl).trans ((hF140.1 9 rfl).trans (fx_9)))) (((hF163.1 29 rfl).trans ((hF140.1 29 rfl).trans (fx_29)))) (by omega) (by omega) (by omega) (by omega) (by omega) (by omega) (by omega) (by omega) (by omega) (by omega) (by omega) (by omega) (by omega)
                    · have _q := h232
                      exact absurd h232 (by omega)
              · have _q : True := trivial
                refine jx_ld (pc' := 190) (l' := jSto1 L 7 (.int (i32 (r135)))) (st' := []) rfl rfl ?_
                obtain ⟨L235, eL235⟩ : ∃ q, q = jSto1 L 7 (.int (i32 (r135))) := ⟨_, rfl⟩
                rw [← eL235]
                have gL235_0 : jGet L235 0 = some (.ref 66) := eL235 ▸ jg_ne (by decide) gL_0 rfl
                have gL235_1 : jGet L235 1 = some (.int (i32 (many))) := eL235 ▸ jg_ne (by decide) gL_1 rfl
                have gL235_2 : jGet L235 2 = some (.int (i32 (row))) := eL235 ▸ jg_ne (by decide) gL_2 rfl
                have gL235_4 : jGet L235 4 = some (.int (i32 (kd))) := eL235 ▸ jg_ne (by decide) gL_4 rfl
                have gL235_5 : jGet L235 5 = some (.int (i32 (fr))) := eL235 ▸ jg_ne (by decide) gL_5 rfl
                have gL235_7 : jGet L235 7 = some (.int (i32 (r135))) := eL235 ▸ jg_eq
                refine jx_ld (pc' := 191) (l' := L235) (st' := [.ref 66]) rfl (jl_aloadn gL235_0) ?_
                refine jx_ar (pc' := 192) (st' := [.int (i32 (1)), .ref 66]) rfl rfl rfl rfl ?_
                refine jx_vr (pc' := 195) (as := [.int (i32 (1))]) (st := []) rfl rfl rfl rfl ⟨rfl, rfl, Nat.le_of_ble_eq_true rfl⟩ rfl rfl (c_need (dd := d) (hd := by omega) (hW := hW139) (g := 1) (ln := ln) (e_ln := show G133 9 = ln from ((hF140.1 9 rfl).trans (fx_9))) (le := le) (e_le := show A134 4 (ln).toNat = le from (congrFun ((hF140.2 4 rfl).trans (hFx.2 4 rfl)) _).trans (e_le)) (at0 := at3) (e_at0 := show G133 10 = at3 from ((hF140.1 10 rfl).trans (ex_at3))) (fk := fk2_138) (e_fk := show G133 16 = fk2_138 from (e144)) (tk0 := tk3) (e_tk0 := show G133 11 = tk3 from ((hF140.1 11 rfl).trans (ex_tk3)))  (h_g := ⟨(by decide), (by decide)⟩)  (p_0 := by omega)) (fun o V' hq => ?_)
                obtain ⟨G236, A237, at2_238, tk2_239, fk2_240, rfl, rfl, hW241, hF242, e243, e244, e245, p246, p247, q248⟩ := hq
                have hF249 := Fr_tr hF146 hF242 (Fr_sub (by decide)) (Fr_sub (by decide))
                have bat2_238 : (0 : Int) ≤ at2_238 ∧ at2_238 ≤ 3002 := e243 ▸ hW241.1 10
                have ztk2_239 := tz_b tk2_239
                have btk2_239 : (0 : Int) ≤ tk2_239 ∧ tk2_239 ≤ 5 := e244 ▸ hW241.1 11
                have zfk2_240 := tz_f fk2_240
                have bfk2_240 : (0 : Int) ≤ fk2_240 ∧ fk2_240 ≤ 6 := e245 ▸ hW241.1 16
                refine .inl ⟨rfl, ?_⟩
                rcases q248 with ⟨a250, a251, a252, a253⟩ | ⟨a254, a255, a256, a257⟩
                · have _q : True := trivial
                  refine jx_ld (pc' := 196) (l' := L235) (st' := [.ref 66]) rfl (jl_aloadn gL235_0) ?_
                  refine jx_ar (pc' := 198) (st' := [.int (i32 (44)), .ref 66]) rfl rfl rfl rfl ?_
                  have b258 : (-2147483648 : Int) ≤ G236 13 ∧ G236 13 ≤ 2147483647 := hW241.1 13
                  refine jx_vr (pc' := 201) (as := [.int (i32 (44))]) (st := []) rfl rfl rfl rfl ⟨rfl, rfl, Nat.le_of_ble_eq_true rfl⟩ rfl rfl (c_is (dd := d) (hd := by omega) (hW := hW241) (k := 44) (tk := tk2_239) (e_tk := show G236 11 = tk2_239 from (e244)) (tn := G236 13) (e_tn := show G236 13 = G236 13 from rfl)  (h_k := ⟨(by decide), (by decide)⟩)  ) (fun o V' hq => ?_)
                  obtain ⟨r259, rfl, rfl, b260, q261⟩ := hq
                  refine .inr ⟨_, rfl, ?_⟩
                  rcases q261 with ⟨rfl, a262, a263, a264⟩ | rfl
                  · have _q : True := trivial
                    refine jx_ld (pc' := 203) (l' := jSto1 L235 6 (.int (i32 (1)))) (st' := []) rfl rfl ?_
                    obtain ⟨L265, eL265⟩ : ∃ q, q = jSto1 L235 6 (.int (i32 (1))) := ⟨_, rfl⟩
                    rw [← eL265]
                    have gL265_0 : jGet L265 0 = some (.ref 66) := eL265 ▸ jg_ne (by decide) gL235_0 rfl
                    have gL265_1 : jGet L265 1 = some (.int (i32 (many))) := eL265 ▸ jg_ne (by decide) gL235_1 rfl
                    have gL265_2 : jGet L265 2 = some (.int (i32 (row))) := eL265 ▸ jg_ne (by decide) gL235_2 rfl
                    have gL265_4 : jGet L265 4 = some (.int (i32 (kd))) := eL265 ▸ jg_ne (by decide) gL235_4 rfl
                    have gL265_5 : jGet L265 5 = some (.int (i32 (fr))) := eL265 ▸ jg_ne (by decide) gL235_5 rfl
                    have gL265_7 : jGet L265 7 = some (.int (i32 (r135))) := eL265 ▸ jg_ne (by decide) gL235_7 rfl
                    have gL265_6 : jGet L265 6 = some (.int (i32 (1))) := eL265 ▸ jg_eq
                    refine jx_ld (pc' := 205) (l' := L265) (st' := [.int (i32 (1))]) rfl (jl_iload gL265_6) ?_
                    refine jx_if_eq (pc' := 208) (tg := 212) rfl rfl rfl (by decide) (by decide) (fun h266 => ?_) (fun h266 => ?_)
                    · have _q := h266
                      exact absurd h266 (by omega)
                    · have _q := h266
                      refine jx_ld (pc' := 209) (l' := L265) (st' := [.ref 66]) rfl (jl_aloadn gL265_0) ?_
                      refine jx_vr (pc' := 212) (as := []) (st := []) rfl rfl rfl rfl ⟨rfl, rfl, Nat.le_of_ble_eq_true rfl⟩ rfl rfl (c_next (dd := d) (hd := by omega) (hW := hW241)  (ln := ln) (e_ln := show G236 9 = ln from ((hF242.1 9 rfl).trans ((hF140.1 9 rfl).trans (fx_9)))) (le := le) (e_le := show A237 4 (ln).toNat = le from (congrFun ((hF242.2 4 rfl).trans ((hF140.2 4 rfl).trans (hFx.2 4 rfl))) _).trans (e_le)) (at0 := at2_238) (e_at0 := show G236 10 = at2_238 from (e243))    (p_0 := by omega)) (fun o V' hq => ?_)
                      obtain ⟨G267, A268, at2_269, tk2_270, rfl, rfl, hW271, hF272, e273, e274, p275, p276, p277, -⟩ := hq
                      have hF279 := Fr_tr hF249 hF272 (Fr_sub (by decide)) (Fr_sub (by decide))
                      have bat2_269 : (0 : Int) ≤ at2_269 ∧ at2_269 ≤ 3002 := e273 ▸ hW271.1 10
                      have ztk2_270 := tz_b tk2_270
                      have btk2_270 : (0 : Int) ≤ tk2_270 ∧ tk2_270 ≤ 5 := e274 ▸ hW271.1 11
                      refine .inl ⟨rfl, ?_⟩
                      refine jx_go (tg := 100) rfl rfl ?_
                      have z280 := tz_f (tk2_270)
                      have z281 := tz_f (fk2_240)
                      exact ih100 _ (by omega) L265 G267 A268 (many) (row) (kd) (fr) (1) (at2_269) (tk2_270) (fk2_240) (sy2_136) (na2_137) rfl gL265_0 gL265_1 gL265_2 gL265_4 gL265_5 gL265_6 hW271 hF279 ((e273)) ((e274)) (((hF272.1 16 rfl).trans (e245))) (((hF272.1 19 rfl).trans ((hF242.1 19 rfl).trans (e142)))) (((hF272.1 28 rfl).trans ((hF242.1 28 rfl).trans (e143)))) (((hF272.1 9 rfl).trans ((hF242.1 9 rfl).trans ((hF140.1 9 rfl).trans (fx_9))))) (((hF272.1 29 rfl).trans ((hF242.1 29 rfl).trans ((hF140.1 29 rfl).trans (fx_29))))) (by omega) (by omega) (by omega) (by omega) (by omega) (by omega) (by omega) (by omega) (by omega) (by omega) (by omega) (by omega) (by omega)
                  · have _q : True := trivial
                    refine jx_ld (pc' := 203) (l' := jSto1 L235 6 (.int (i32 (0)))) (st' := []) rfl rfl ?_
                    obtain ⟨L282, eL282⟩ : ∃ q, q = jSto1 L235 6 (.int (i32 (0))) := ⟨_, rfl⟩
                    rw [← eL282]
                    have gL282_0 : jGet L282 0 = some (.ref 66) := eL282 ▸ jg_ne (by decide) gL235_0 rfl
                    have gL282_1 : jGet L282 1 = some (.int (i32 (many))) := eL282 ▸ jg_ne (by decide) gL235_1 rfl
                    have gL282_2 : jGet L282 2 = some (.int (i32 (row))) := eL282 ▸ jg_ne (by decide) gL235_2 rfl
                    have gL282_4 : jGet L282 4 = some (.int (i32 (kd))) := eL282 ▸ jg_ne (by decide) gL235_4 rfl
                    have gL282_5 : jGet L282 5 = some (.int (i32 (fr))) := eL282 ▸ jg_ne (by decide) gL235_5 rfl
                    have gL282_7 : jGet L282 7 = some (.int (i32 (r135))) := eL282 ▸ jg_ne (by decide) gL235_7 rfl
                    have gL282_6 : jGet L282 6 = some (.int (i32 (0))) := eL282 ▸ jg_eq
                    refine jx_ld (pc' := 205) (l' := L282) (st' := [.int (i32 (0))]) rfl (jl_iload gL282_6) ?_
                    refine jx_if_eq (pc' := 208) (tg := 212) rfl rfl rfl (by decide) (by decide) (fun h283 => ?_) (fun h283 => ?_)
                    · have _q := h283
                      refine jx_go (tg := 100) rfl rfl ?_
                      have z284 := tz_f (tk2_239)
                      have z285 := tz_f (fk2_240)
                      exact ih100 _ (by omega) L282 G236 A237 (many) (row) (kd) (fr) (0) (at2_238) (tk2_239) (fk2_240) (sy2_136) (na2_137) rfl gL282_0 gL282_1 gL282_2 gL282_4 gL282_5 gL282_6 hW241 hF249 ((e243)) ((e244)) ((e245)) (((hF242.1 19 rfl).trans (e142))) (((hF242.1 28 rfl).trans (e143))) (((hF242.1 9 rfl).trans ((hF140.1 9 rfl).trans (fx_9)))) (((hF242.1 29 rfl).trans ((hF140.1 29 rfl).trans (fx_29)))) (by omega) (by omega) (by omega) (by omega) (by omega) (by omega) (by omega) (by omega) (by omega) (by omega) (by omega) (by omega) (by omega)
                    · have _q := h283
                      exact absurd h283 (by omega)
                · have _q : True := trivial
                  exfalso
                  omega
            · have _q := h132
              refine jx_ld (pc' := 181) (l' := L) (st' := [.int (i32 (many)), .int (i32 (kd)), .ref 66]) rfl (jl_iloadn gL_1) ?_
              refine jx_go (tg := 185) rfl rfl ?_
              refine jx_vr (pc' := 188) (as := [.int (i32 (kd)), .int (i32 (many))]) (st := []) rfl rfl rfl rfl ⟨rfl, rfl, Nat.le_of_ble_eq_true rfl⟩ rfl rfl (c_newName (dd := d) (hd := by omega) (hW := hWx) (kind := kd) (many := many) (sy := sy1) (e_sy := show Gx 19 = sy1 from (fx_19)) (na := na1) (e_na := show Gx 28 = na1 from (fx_28)) (fk := fk3) (e_fk := show Gx 16 = fk3 from (ex_fk3))  (h_kind := ⟨(Int.le_trans (by decide : (-2147483648 : Int) ≤ -2147483648) rx_kd.1), (Int.le_trans rx_kd.2 (by decide : (2147483647 : Int) ≤ 2147483647))⟩) (h_many := ⟨(Int.le_trans (by decide : (-2147483648 : Int) ≤ -2147483648) rx_many.1), (Int.le_trans rx_many.2 (by decide : (2147483647 : Int) ≤ 2147483647))⟩)  (p_0 := by omega) (p_1 := by omega)) (fun o V' hq => ?_)
              obtain ⟨G286, A287, r288, sy2_289, na2_290, fk2_291, rfl, rfl, hW292, hF293, b294, e295, e296, e297, q298⟩ := hq
              have hF299 := Fr_tr hFx hF293 (Fr_sub (by decide)) (Fr_sub (by decide))
              have bsy2_289 : (0 : Int) ≤ sy2_289 ∧ sy2_289 ≤ 202 := e295 ▸ hW292.1 19
              have bna2_290 : (0 : Int) ≤ na2_290 ∧ na2_290 ≤ 200 := e296 ▸ hW292.1 28
              have zfk2_291 := tz_f fk2_291
              have bfk2_291 : (0 : Int) ≤ fk2_291 ∧ fk2_291 ≤ 6 := e297 ▸ hW292.1 16
              refine .inr ⟨_, rfl, ?_⟩
              rcases q298 with ⟨a300, a301, a302, a303, a304⟩ | ⟨a305, a306, a307, a308⟩
              · have _q : True := trivial
                refine jx_ld (pc' := 190) (l' := jSto1 L 7 (.int (i32 (r288)))) (st' := []) rfl rfl ?_
                obtain ⟨L309, eL309⟩ : ∃ q, q = jSto1 L 7 (.int (i32 (r288))) := ⟨_, rfl⟩
                rw [← eL309]
                have gL309_0 : jGet L309 0 = some (.ref 66) := eL309 ▸ jg_ne (by decide) gL_0 rfl
                have gL309_1 : jGet L309 1 = some (.int (i32 (many))) := eL309 ▸ jg_ne (by decide) gL_1 rfl
                have gL309_2 : jGet L309 2 = some (.int (i32 (row))) := eL309 ▸ jg_ne (by decide) gL_2 rfl
                have gL309_4 : jGet L309 4 = some (.int (i32 (kd))) := eL309 ▸ jg_ne (by decide) gL_4 rfl
                have gL309_5 : jGet L309 5 = some (.int (i32 (fr))) := eL309 ▸ jg_ne (by decide) gL_5 rfl
                have gL309_7 : jGet L309 7 = some (.int (i32 (r288))) := eL309 ▸ jg_eq
                refine jx_ld (pc' := 191) (l' := L309) (st' := [.ref 66]) rfl (jl_aloadn gL309_0) ?_
                refine jx_ar (pc' := 192) (st' := [.int (i32 (1)), .ref 66]) rfl rfl rfl rfl ?_
                refine jx_vr (pc' := 195) (as := [.int (i32 (1))]) (st := []) rfl rfl rfl rfl ⟨rfl, rfl, Nat.le_of_ble_eq_true rfl⟩ rfl rfl (c_need (dd := d) (hd := by omega) (hW := hW292) (g := 1) (ln := ln) (e_ln := show G286 9 = ln from ((hF293.1 9 rfl).trans (fx_9))) (le := le) (e_le := show A287 4 (ln).toNat = le from (congrFun ((hF293.2 4 rfl).trans (hFx.2 4 rfl)) _).trans (e_le)) (at0 := at3) (e_at0 := show G286 10 = at3 from ((hF293.1 10 rfl).trans (ex_at3))) (fk := fk2_291) (e_fk := show G286 16 = fk2_291 from (e297)) (tk0 := tk3) (e_tk0 := show G286 11 = tk3 from ((hF293.1 11 rfl).trans (ex_tk3)))  (h_g := ⟨(by decide), (by decide)⟩)  (p_0 := by omega)) (fun o V' hq => ?_)
                obtain ⟨G310, A311, at2_312, tk2_313, fk2_314, rfl, rfl, hW315, hF316, e317, e318, e319, p320, p321, q322⟩ := hq
                have hF323 := Fr_tr hF299 hF316 (Fr_sub (by decide)) (Fr_sub (by decide))
                have bat2_312 : (0 : Int) ≤ at2_312 ∧ at2_312 ≤ 3002 := e317 ▸ hW315.1 10
                have ztk2_313 := tz_b tk2_313
                have btk2_313 : (0 : Int) ≤ tk2_313 ∧ tk2_313 ≤ 5 := e318 ▸ hW315.1 11
                have zfk2_314 := tz_f fk2_314
                have bfk2_314 : (0 : Int) ≤ fk2_314 ∧ fk2_314 ≤ 6 := e319 ▸ hW315.1 16
                refine .inl ⟨rfl, ?_⟩
                rcases q322 with ⟨a324, a325, a326, a327⟩ | ⟨a328, a329, a330, a331⟩
                · have _q : True := trivial
                  refine jx_ld (pc' := 196) (l' := L309) (st' := [.ref 66]) rfl (jl_aloadn gL309_0) ?_
                  refine jx_ar (pc' := 198) (st' := [.int (i32 (44)), .ref 66]) rfl rfl rfl rfl ?_
                  have b332 : (-2147483648 : Int) ≤ G310 13 ∧ G310 13 ≤ 2147483647 := hW315.1 13
                  refine jx_vr (pc' := 201) (as := [.int (i32 (44))]) (st := []) rfl rfl rfl rfl ⟨rfl, rfl, Nat.le_of_ble_eq_true rfl⟩ rfl rfl (c_is (dd := d) (hd := by omega) (hW := hW315) (k := 44) (tk := tk2_313) (e_tk := show G310 11 = tk2_313 from (e318)) (tn := G310 13) (e_tn := show G310 13 = G310 13 from rfl)  (h_k := ⟨(by decide), (by decide)⟩)  ) (fun o V' hq => ?_)
                  obtain ⟨r333, rfl, rfl, b334, q335⟩ := hq
                  refine .inr ⟨_, rfl, ?_⟩
                  rcases q335 with ⟨rfl, a336, a337, a338⟩ | rfl
                  · have _q : True := trivial
                    refine jx_ld (pc' := 203) (l' := jSto1 L309 6 (.int (i32 (1)))) (st' := []) rfl rfl ?_
                    obtain ⟨L339, eL339⟩ : ∃ q, q = jSto1 L309 6 (.int (i32 (1))) := ⟨_, rfl⟩
                    rw [← eL339]
                    have gL339_0 : jGet L339 0 = some (.ref 66) := eL339 ▸ jg_ne (by decide) gL309_0 rfl
                    have gL339_1 : jGet L339 1 = some (.int (i32 (many))) := eL339 ▸ jg_ne (by decide) gL309_1 rfl
                    have gL339_2 : jGet L339 2 = some (.int (i32 (row))) := eL339 ▸ jg_ne (by decide) gL309_2 rfl
                    have gL339_4 : jGet L339 4 = some (.int (i32 (kd))) := eL339 ▸ jg_ne (by decide) gL309_4 rfl
                    have gL339_5 : jGet L339 5 = some (.int (i32 (fr))) := eL339 ▸ jg_ne (by decide) gL309_5 rfl
                    have gL339_7 : jGet L339 7 = some (.int (i32 (r288))) := eL339 ▸ jg_ne (by decide) gL309_7 rfl
                    have gL339_6 : jGet L339 6 = some (.int (i32 (1))) := eL339 ▸ jg_eq
                    refine jx_ld (pc' := 205) (l' := L339) (st' := [.int (i32 (1))]) rfl (jl_iload gL339_6) ?_
                    refine jx_if_eq (pc' := 208) (tg := 212) rfl rfl rfl (by decide) (by decide) (fun h340 => ?_) (fun h340 => ?_)
                    · have _q := h340
                      exact absurd h340 (by omega)
                    · have _q := h340
                      refine jx_ld (pc' := 209) (l' := L339) (st' := [.ref 66]) rfl (jl_aloadn gL339_0) ?_
                      refine jx_vr (pc' := 212) (as := []) (st := []) rfl rfl rfl rfl ⟨rfl, rfl, Nat.le_of_ble_eq_true rfl⟩ rfl rfl (c_next (dd := d) (hd := by omega) (hW := hW315)  (ln := ln) (e_ln := show G310 9 = ln from ((hF316.1 9 rfl).trans ((hF293.1 9 rfl).trans (fx_9)))) (le := le) (e_le := show A311 4 (ln).toNat = le from (congrFun ((hF316.2 4 rfl).trans ((hF293.2 4 rfl).trans (hFx.2 4 rfl))) _).trans (e_le)) (at0 := at2_312) (e_at0 := show G310 10 = at2_312 from (e317))    (p_0 := by omega)) (fun o V' hq => ?_)
                      obtain ⟨G341, A342, at2_343, tk2_344, rfl, rfl, hW345, hF346, e347, e348, p349, p350, p351, -⟩ := hq
                      have hF353 := Fr_tr hF323 hF346 (Fr_sub (by decide)) (Fr_sub (by decide))
                      have bat2_343 : (0 : Int) ≤ at2_343 ∧ at2_343 ≤ 3002 := e347 ▸ hW345.1 10
                      have ztk2_344 := tz_b tk2_344
                      have btk2_344 : (0 : Int) ≤ tk2_344 ∧ tk2_344 ≤ 5 := e348 ▸ hW345.1 11
                      refine .inl ⟨rfl, ?_⟩
                      refine jx_go (tg := 100) rfl rfl ?_
                      have z354 := tz_f (tk2_344)
                      have z355 := tz_f (fk2_314)
                      exact ih100 _ (by omega) L339 G341 A342 (many) (row) (kd) (fr) (1) (at2_343) (tk2_344) (fk2_314) (sy2_289) (na2_290) rfl gL339_0 gL339_1 gL339_2 gL339_4 gL339_5 gL339_6 hW345 hF353 ((e347)) ((e348)) (((hF346.1 16 rfl).trans (e319))) (((hF346.1 19 rfl).trans ((hF316.1 19 rfl).trans (e295)))) (((hF346.1 28 rfl).trans ((hF316.1 28 rfl).trans (e296)))) (((hF346.1 9 rfl).trans ((hF316.1 9 rfl).trans ((hF293.1 9 rfl).trans (fx_9))))) (((hF346.1 29 rfl).trans ((hF316.1 29 rfl).trans ((hF293.1 29 rfl).trans (fx_29))))) (by omega) (by omega) (by omega) (by omega) (by omega) (by omega) (by omega) (by omega) (by omega) (by omega) (by omega) (by omega) (by omega)
                  · have _q : True := trivial
                    refine jx_ld (pc' := 203) (l' := jSto1 L309 6 (.int (i32 (0)))) (st' := []) rfl rfl ?_
                    obtain ⟨L356, eL356⟩ : ∃ q, q = jSto1 L309 6 (.int (i32 (0))) := ⟨_, rfl⟩
                    rw [← eL356]
                    have gL356_0 : jGet L356 0 = some (.ref 66) := eL356 ▸ jg_ne (by decide) gL309_0 rfl
                    have gL356_1 : jGet L356 1 = some (.int (i32 (many))) := eL356 ▸ jg_ne (by decide) gL309_1 rfl
                    have gL356_2 : jGet L356 2 = some (.int (i32 (row))) := eL356 ▸ jg_ne (by decide) gL309_2 rfl
                    have gL356_4 : jGet L356 4 = some (.int (i32 (kd))) := eL356 ▸ jg_ne (by decide) gL309_4 rfl
                    have gL356_5 : jGet L356 5 = some (.int (i32 (fr))) := eL356 ▸ jg_ne (by decide) gL309_5 rfl
                    have gL356_7 : jGet L356 7 = some (.int (i32 (r288))) := eL356 ▸ jg_ne (by decide) gL309_7 rfl
                    have gL356_6 : jGet L356 6 = some (.int (i32 (0))) := eL356 ▸ jg_eq
                    refine jx_ld (pc' := 205) (l' := L356) (st' := [.int (i32 (0))]) rfl (jl_iload gL356_6) ?_
                    refine jx_if_eq (pc' := 208) (tg := 212) rfl rfl rfl (by decide) (by decide) (fun h357 => ?_) (fun h357 => ?_)
                    · have _q := h357
                      refine jx_go (tg := 100) rfl rfl ?_
                      have z358 := tz_f (tk2_313)
                      have z359 := tz_f (fk2_314)
                      exact ih100 _ (by omega) L356 G310 A311 (many) (row) (kd) (fr) (0) (at2_312) (tk2_313) (fk2_314) (sy2_289) (na2_290) rfl gL356_0 gL356_1 gL356_2 gL356_4 gL356_5 gL356_6 hW315 hF323 ((e317)) ((e318)) ((e319)) (((hF316.1 19 rfl).trans (e295))) (((hF316.1 28 rfl).trans (e296))) (((hF316.1 9 rfl).trans ((hF293.1 9 rfl).trans (fx_9)))) (((hF316.1 29 rfl).trans ((hF293.1 29 rfl).trans (fx_29)))) (by omega) (by omega) (by omega) (by omega) (by omega) (by omega) (by omega) (by omega) (by omega) (by omega) (by omega) (by omega) (by omega)
                    · have _q := h357
                      exact absurd h357 (by omega)
                · have _q : True := trivial
                  refine jx_ld (pc' := 196) (l' := L309) (st' := [.ref 66]) rfl (jl_aloadn gL309_0) ?_
                  refine jx_ar (pc' := 198) (st' := [.int (i32 (44)), .ref 66]) rfl rfl rfl rfl ?_
                  have b360 : (-2147483648 : Int) ≤ G310 13 ∧ G310 13 ≤ 2147483647 := hW315.1 13
                  refine jx_vr (pc' := 201) (as := [.int (i32 (44))]) (st := []) rfl rfl rfl rfl ⟨rfl, rfl, Nat.le_of_ble_eq_true rfl⟩ rfl rfl (c_is (dd := d) (hd := by omega) (hW := hW315) (k := 44) (tk := tk2_313) (e_tk := show G310 11 = tk2_313 from (e318)) (tn := G310 13) (e_tn := show G310 13 = G310 13 from rfl)  (h_k := ⟨(by decide), (by decide)⟩)  ) (fun o V' hq => ?_)
                  obtain ⟨r361, rfl, rfl, b362, q363⟩ := hq
                  refine .inr ⟨_, rfl, ?_⟩
                  rcases q363 with ⟨rfl, a364, a365, a366⟩ | rfl
                  · have _q : True := trivial
                    refine jx_ld (pc' := 203) (l' := jSto1 L309 6 (.int (i32 (1)))) (st' := []) rfl rfl ?_
                    obtain ⟨L367, eL367⟩ : ∃ q, q = jSto1 L309 6 (.int (i32 (1))) := ⟨_, rfl⟩
                    rw [← eL367]
                    have gL367_0 : jGet L367 0 = some (.ref 66) := eL367 ▸ jg_ne (by decide) gL309_0 rfl
                    have gL367_1 : jGet L367 1 = some (.int (i32 (many))) := eL367 ▸ jg_ne (by decide) gL309_1 rfl
                    have gL367_2 : jGet L367 2 = some (.int (i32 (row))) := eL367 ▸ jg_ne (by decide) gL309_2 rfl
                    have gL367_4 : jGet L367 4 = some (.int (i32 (kd))) := eL367 ▸ jg_ne (by decide) gL309_4 rfl
                    have gL367_5 : jGet L367 5 = some (.int (i32 (fr))) := eL367 ▸ jg_ne (by decide) gL309_5 rfl
                    have gL367_7 : jGet L367 7 = some (.int (i32 (r288))) := eL367 ▸ jg_ne (by decide) gL309_7 rfl
                    have gL367_6 : jGet L367 6 = some (.int (i32 (1))) := eL367 ▸ jg_eq
                    refine jx_ld (pc' := 205) (l' := L367) (st' := [.int (i32 (1))]) rfl (jl_iload gL367_6) ?_
                    refine jx_if_eq (pc' := 208) (tg := 212) rfl rfl rfl (by decide) (by decide) (fun h368 => ?_) (fun h368 => ?_)
                    · have _q := h368
                      exact absurd h368 (by omega)
                    · have _q := h368
                      refine jx_ld (pc' := 209) (l' := L367) (st' := [.ref 66]) rfl (jl_aloadn gL367_0) ?_
                      refine jx_vr (pc' := 212) (as := []) (st := []) rfl rfl rfl rfl ⟨rfl, rfl, Nat.le_of_ble_eq_true rfl⟩ rfl rfl (c_next (dd := d) (hd := by omega) (hW := hW315)  (ln := ln) (e_ln := show G310 9 = ln from ((hF316.1 9 rfl).trans ((hF293.1 9 rfl).trans (fx_9)))) (le := le) (e_le := show A311 4 (ln).toNat = le from (congrFun ((hF316.2 4 rfl).trans ((hF293.2 4 rfl).trans (hFx.2 4 rfl))) _).trans (e_le)) (at0 := at2_312) (e_at0 := show G310 10 = at2_312 from (e317))    (p_0 := by omega)) (fun o V' hq => ?_)
                      obtain ⟨G369, A370, at2_371, tk2_372, rfl, rfl, hW373, hF374, e375, e376, p377, p378, p379, -⟩ := hq
                      have hF381 := Fr_tr hF323 hF374 (Fr_sub (by decide)) (Fr_sub (by decide))
                      have bat2_371 : (0 : Int) ≤ at2_371 ∧ at2_371 ≤ 3002 := e375 ▸ hW373.1 10
                      have ztk2_372 := tz_b tk2_372
                      have btk2_372 : (0 : Int) ≤ tk2_372 ∧ tk2_372 ≤ 5 := e376 ▸ hW373.1 11
                      refine .inl ⟨rfl, ?_⟩
                      refine jx_go (tg := 100) rfl rfl ?_
                      have z382 := tz_f (tk2_372)
                      have z383 := tz_f (fk2_314)
                      exact ih100 _ (by omega) L367 G369 A370 (many) (row) (kd) (fr) (1) (at2_371) (tk2_372) (fk2_314) (sy2_289) (na2_290) rfl gL367_0 gL367_1 gL367_2 gL367_4 gL367_5 gL367_6 hW373 hF381 ((e375)) ((e376)) (((hF374.1 16 rfl).trans (e319))) (((hF374.1 19 rfl).trans ((hF316.1 19 rfl).trans (e295)))) (((hF374.1 28 rfl).trans ((hF316.1 28 rfl).trans (e296)))) (((hF374.1 9 rfl).trans ((hF316.1 9 rfl).trans ((hF293.1 9 rfl).trans (fx_9))))) (((hF374.1 29 rfl).trans ((hF316.1 29 rfl).trans ((hF293.1 29 rfl).trans (fx_29))))) (by omega) (by omega) (by omega) (by omega) (by omega) (by omega) (by omega) (by omega) (by omega) (by omega) (by omega) (by omega) (by omega)
                  · have _q : True := trivial
                    refine jx_ld (pc' := 203) (l' := jSto1 L309 6 (.int (i32 (0)))) (st' := []) rfl rfl ?_
                    obtain ⟨L384, eL384⟩ : ∃ q, q = jSto1 L309 6 (.int (i32 (0))) := ⟨_, rfl⟩
                    rw [← eL384]
                    have gL384_0 : jGet L384 0 = some (.ref 66) := eL384 ▸ jg_ne (by decide) gL309_0 rfl
                    have gL384_1 : jGet L384 1 = some (.int (i32 (many))) := eL384 ▸ jg_ne (by decide) gL309_1 rfl
                    have gL384_2 : jGet L384 2 = some (.int (i32 (row))) := eL384 ▸ jg_ne (by decide) gL309_2 rfl
                    have gL384_4 : jGet L384 4 = some (.int (i32 (kd))) := eL384 ▸ jg_ne (by decide) gL309_4 rfl
                    have gL384_5 : jGet L384 5 = some (.int (i32 (fr))) := eL384 ▸ jg_ne (by decide) gL309_5 rfl
                    have gL384_7 : jGet L384 7 = some (.int (i32 (r288))) := eL384 ▸ jg_ne (by decide) gL309_7 rfl
                    have gL384_6 : jGet L384 6 = some (.int (i32 (0))) := eL384 ▸ jg_eq
                    refine jx_ld (pc' := 205) (l' := L384) (st' := [.int (i32 (0))]) rfl (jl_iload gL384_6) ?_
                    refine jx_if_eq (pc' := 208) (tg := 212) rfl rfl rfl (by decide) (by decide) (fun h385 => ?_) (fun h385 => ?_)
                    · have _q := h385
                      refine jx_go (tg := 100) rfl rfl ?_
                      have z386 := tz_f (tk2_313)
                      have z387 := tz_f (fk2_314)
                      exact ih100 _ (by omega) L384 G310 A311 (many) (row) (kd) (fr) (0) (at2_312) (tk2_313) (fk2_314) (sy2_289) (na2_290) rfl gL384_0 gL384_1 gL384_2 gL384_4 gL384_5 gL384_6 hW315 hF323 ((e317)) ((e318)) ((e319)) (((hF316.1 19 rfl).trans (e295))) (((hF316.1 28 rfl).trans (e296))) (((hF316.1 9 rfl).trans ((hF293.1 9 rfl).trans (fx_9)))) (((hF316.1 29 rfl).trans ((hF293.1 29 rfl).trans (fx_29)))) (by omega) (by omega) (by omega) (by omega) (by omega) (by omega) (by omega) (by omega) (by omega) (by omega) (by omega) (by omega) (by omega)
                    · have _q := h385
                      exact absurd h385 (by omega)
              · have _q : True := trivial
                refine jx_ld (pc' := 190) (l' := jSto1 L 7 (.int (i32 (r288)))) (st' := []) rfl rfl ?_
                obtain ⟨L388, eL388⟩ : ∃ q, q = jSto1 L 7 (.int (i32 (r288))) := ⟨_, rfl⟩
                rw [← eL388]
                have gL388_0 : jGet L388 0 = some (.ref 66) := eL388 ▸ jg_ne (by decide) gL_0 rfl
                have gL388_1 : jGet L388 1 = some (.int (i32 (many))) := eL388 ▸ jg_ne (by decide) gL_1 rfl
                have gL388_2 : jGet L388 2 = some (.int (i32 (row))) := eL388 ▸ jg_ne (by decide) gL_2 rfl
                have gL388_4 : jGet L388 4 = some (.int (i32 (kd))) := eL388 ▸ jg_ne (by decide) gL_4 rfl
                have gL388_5 : jGet L388 5 = some (.int (i32 (fr))) := eL388 ▸ jg_ne (by decide) gL_5 rfl
                have gL388_7 : jGet L388 7 = some (.int (i32 (r288))) := eL388 ▸ jg_eq
                refine jx_ld (pc' := 191) (l' := L388) (st' := [.ref 66]) rfl (jl_aloadn gL388_0) ?_
                refine jx_ar (pc' := 192) (st' := [.int (i32 (1)), .ref 66]) rfl rfl rfl rfl ?_
                refine jx_vr (pc' := 195) (as := [.int (i32 (1))]) (st := []) rfl rfl rfl rfl ⟨rfl, rfl, Nat.le_of_ble_eq_true rfl⟩ rfl rfl (c_need (dd := d) (hd := by omega) (hW := hW292) (g := 1) (ln := ln) (e_ln := show G286 9 = ln from ((hF293.1 9 rfl).trans (fx_9))) (le := le) (e_le := show A287 4 (ln).toNat = le from (congrFun ((hF293.2 4 rfl).trans (hFx.2 4 rfl)) _).trans (e_le)) (at0 := at3) (e_at0 := show G286 10 = at3 from ((hF293.1 10 rfl).trans (ex_at3))) (fk := fk2_291) (e_fk := show G286 16 = fk2_291 from (e297)) (tk0 := tk3) (e_tk0 := show G286 11 = tk3 from ((hF293.1 11 rfl).trans (ex_tk3)))  (h_g := ⟨(by decide), (by decide)⟩)  (p_0 := by omega)) (fun o V' hq => ?_)
                obtain ⟨G389, A390, at2_391, tk2_392, fk2_393, rfl, rfl, hW394, hF395, e396, e397, e398, p399, p400, q401⟩ := hq
                have hF402 := Fr_tr hF299 hF395 (Fr_sub (by decide)) (Fr_sub (by decide))
                have bat2_391 : (0 : Int) ≤ at2_391 ∧ at2_391 ≤ 3002 := e396 ▸ hW394.1 10
                have ztk2_392 := tz_b tk2_392
                have btk2_392 : (0 : Int) ≤ tk2_392 ∧ tk2_392 ≤ 5 := e397 ▸ hW394.1 11
                have zfk2_393 := tz_f fk2_393
                have bfk2_393 : (0 : Int) ≤ fk2_393 ∧ fk2_393 ≤ 6 := e398 ▸ hW394.1 16
                refine .inl ⟨rfl, ?_⟩
                rcases q401 with ⟨a403, a404, a405, a406⟩ | ⟨a407, a408, a409, a410⟩
                · have _q : True := trivial
                  refine jx_ld (pc' := 196) (l' := L388) (st' := [.ref 66]) rfl (jl_aloadn gL388_0) ?_
                  refine jx_ar (pc' := 198) (st' := [.int (i32 (44)), .ref 66]) rfl rfl rfl rfl ?_
                  have b411 : (-2147483648 : Int) ≤ G389 13 ∧ G389 13 ≤ 2147483647 := hW394.1 13
                  refine jx_vr (pc' := 201) (as := [.int (i32 (44))]) (st := []) rfl rfl rfl rfl ⟨rfl, rfl, Nat.le_of_ble_eq_true rfl⟩ rfl rfl (c_is (dd := d) (hd := by omega) (hW := hW394) (k := 44) (tk := tk2_392) (e_tk := show G389 11 = tk2_392 from (e397)) (tn := G389 13) (e_tn := show G389 13 = G389 13 from rfl)  (h_k := ⟨(by decide), (by decide)⟩)  ) (fun o V' hq => ?_)
                  obtain ⟨r412, rfl, rfl, b413, q414⟩ := hq
                  refine .inr ⟨_, rfl, ?_⟩
                  rcases q414 with ⟨rfl, a415, a416, a417⟩ | rfl
                  · have _q : True := trivial
                    refine jx_ld (pc' := 203) (l' := jSto1 L388 6 (.int (i32 (1)))) (st' := []) rfl rfl ?_
                    obtain ⟨L418, eL418⟩ : ∃ q, q = jSto1 L388 6 (.int (i32 (1))) := ⟨_, rfl⟩
                    rw [← eL418]
                    have gL418_0 : jGet L418 0 = some (.ref 66) := eL418 ▸ jg_ne (by decide) gL388_0 rfl
                    have gL418_1 : jGet L418 1 = some (.int (i32 (many))) := eL418 ▸ jg_ne (by decide) gL388_1 rfl
                    have gL418_2 : jGet L418 2 = some (.int (i32 (row))) := eL418 ▸ jg_ne (by decide) gL388_2 rfl
                    have gL418_4 : jGet L418 4 = some (.int (i32 (kd))) := eL418 ▸ jg_ne (by decide) gL388_4 rfl
                    have gL418_5 : jGet L418 5 = some (.int (i32 (fr))) := eL418 ▸ jg_ne (by decide) gL388_5 rfl
                    have gL418_7 : jGet L418 7 = some (.int (i32 (r288))) := eL418 ▸ jg_ne (by decide) gL388_7 rfl
                    have gL418_6 : jGet L418 6 = some (.int (i32 (1))) := eL418 ▸ jg_eq
                    refine jx_ld (pc' := 205) (l' := L418) (st' := [.int (i32 (1))]) rfl (jl_iload gL418_6) ?_
                    refine jx_if_eq (pc' := 208) (tg := 212) rfl rfl rfl (by decide) (by decide) (fun h419 => ?_) (fun h419 => ?_)
                    · have _q := h419
                      exact absurd h419 (by omega)
                    · have _q := h419
                      refine jx_ld (pc' := 209) (l' := L418) (st' := [.ref 66]) rfl (jl_aloadn gL418_0) ?_
                      refine jx_vr (pc' := 212) (as := []) (st := []) rfl rfl rfl rfl ⟨rfl, rfl, Nat.le_of_ble_eq_true rfl⟩ rfl rfl (c_next (dd := d) (hd := by omega) (hW := hW394)  (ln := ln) (e_ln := show G389 9 = ln from ((hF395.1 9 rfl).trans ((hF293.1 9 rfl).trans (fx_9)))) (le := le) (e_le := show A390 4 (ln).toNat = le from (congrFun ((hF395.2 4 rfl).trans ((hF293.2 4 rfl).trans (hFx.2 4 rfl))) _).trans (e_le)) (at0 := at2_391) (e_at0 := show G389 10 = at2_391 from (e396))    (p_0 := by omega)) (fun o V' hq => ?_)
                      obtain ⟨G420, A421, at2_422, tk2_423, rfl, rfl, hW424, hF425, e426, e427, p428, p429, p430, -⟩ := hq
                      have hF432 := Fr_tr hF402 hF425 (Fr_sub (by decide)) (Fr_sub (by decide))
                      have bat2_422 : (0 : Int) ≤ at2_422 ∧ at2_422 ≤ 3002 := e426 ▸ hW424.1 10
                      have ztk2_423 := tz_b tk2_423
                      have btk2_423 : (0 : Int) ≤ tk2_423 ∧ tk2_423 ≤ 5 := e427 ▸ hW424.1 11
                      refine .inl ⟨rfl, ?_⟩
                      refine jx_go (tg := 100) rfl rfl ?_
                      have z433 := tz_f (tk2_423)
                      have z434 := tz_f (fk2_393)
                      exact ih100 _ (by omega) L418 G420 A421 (many) (row) (kd) (fr) (1) (at2_422) (tk2_423) (fk2_393) (sy2_289) (na2_290) rfl gL418_0 gL418_1 gL418_2 gL418_4 gL418_5 gL418_6 hW424 hF432 ((e426)) ((e427)) (((hF425.1 16 rfl).trans (e398))) (((hF425.1 19 rfl).trans ((hF395.1 19 rfl).trans (e295)))) (((hF425.1 28 rfl).trans ((hF395.1 28 rfl).trans (e296)))) (((hF425.1 9 rfl).trans ((hF395.1 9 rfl).trans ((hF293.1 9 rfl).trans (fx_9))))) (((hF425.1 29 rfl).trans ((hF395.1 29 rfl).trans ((hF293.1 29 rfl).trans (fx_29))))) (by omega) (by omega) (by omega) (by omega) (by omega) (by omega) (by omega) (by omega) (by omega) (by omega) (by omega) (by omega) (by omega)
                  · have _q : True := trivial
                    refine jx_ld (pc' := 203) (l' := jSto1 L388 6 (.int (i32 (0)))) (st' := []) rfl rfl ?_
                    obtain ⟨L435, eL435⟩ : ∃ q, q = jSto1 L388 6 (.int (i32 (0))) := ⟨_, rfl⟩
                    rw [← eL435]
                    have gL435_0 : jGet L435 0 = some (.ref 66) := eL435 ▸ jg_ne (by decide) gL388_0 rfl
                    have gL435_1 : jGet L435 1 = some (.int (i32 (many))) := eL435 ▸ jg_ne (by decide) gL388_1 rfl
                    have gL435_2 : jGet L435 2 = some (.int (i32 (row))) := eL435 ▸ jg_ne (by decide) gL388_2 rfl
                    have gL435_4 : jGet L435 4 = some (.int (i32 (kd))) := eL435 ▸ jg_ne (by decide) gL388_4 rfl
                    have gL435_5 : jGet L435 5 = some (.int (i32 (fr))) := eL435 ▸ jg_ne (by decide) gL388_5 rfl
                    have gL435_7 : jGet L435 7 = some (.int (i32 (r288))) := eL435 ▸ jg_ne (by decide) gL388_7 rfl
                    have gL435_6 : jGet L435 6 = some (.int (i32 (0))) := eL435 ▸ jg_eq
                    refine jx_ld (pc' := 205) (l' := L435) (st' := [.int (i32 (0))]) rfl (jl_iload gL435_6) ?_
                    refine jx_if_eq (pc' := 208) (tg := 212) rfl rfl rfl (by decide) (by decide) (fun h436 => ?_) (fun h436 => ?_)
                    · have _q := h436
                      refine jx_go (tg := 100) rfl rfl ?_
                      have z437 := tz_f (tk2_392)
                      have z438 := tz_f (fk2_393)
                      exact ih100 _ (by omega) L435 G389 A390 (many) (row) (kd) (fr) (0) (at2_391) (tk2_392) (fk2_393) (sy2_289) (na2_290) rfl gL435_0 gL435_1 gL435_2 gL435_4 gL435_5 gL435_6 hW394 hF402 ((e396)) ((e397)) ((e398)) (((hF395.1 19 rfl).trans (e295))) (((hF395.1 28 rfl).trans (e296))) (((hF395.1 9 rfl).trans ((hF293.1 9 rfl).trans (fx_9)))) (((hF395.1 29 rfl).trans ((hF293.1 29 rfl).trans (fx_29)))) (by omega) (by omega) (by omega) (by omega) (by omega) (by omega) (by omega) (by omega) (by omega) (by omega) (by omega) (by omega) (by omega)
                    · have _q := h436
                      exact absurd h436 (by omega)
                · have _q : True := trivial
                  exfalso
                  omega
          · have _q := h131
            refine jx_ld (pc' := 144) (l' := L) (st' := [.ref 66]) rfl (jl_aloadn gL_0) ?_
            refine jr_get (pc' := 147) (i := 20) (v := .ref 73) rfl rfl (by decide) rfl rfl ?_
            refine jx_ld (pc' := 149) (l' := L) (st' := [.int (i32 (s7)), .ref 73]) rfl (jl_iload gL_7) ?_
            refine jr_llv (pc' := 150) (i := 6) (m := 260) (z := s7) rfl (by decide) rfl (by decide) (by omega) (by omega) rfl (fun y439 => ?_)
            refine jx_ld (pc' := 151) (l' := L) (st' := [.ref 66, .long (y439)]) rfl (jl_aloadn gL_0) ?_
            refine jr_get (pc' := 154) (i := 14) (v := .long (i64 (Gx 14))) rfl rfl (by decide) rfl rfl ?_
            obtain ⟨y440, ey440⟩ : ∃ q : Int64, q = i64 (Gx 14) := ⟨_, rfl⟩
            rw [← ey440]
            refine jx_lcmp (pc' := 155) rfl rfl (fun r441 hr441 => ?_)
            refine jx_if_ne (pc' := 158) (tg := 167) rfl rfl rfl (by omega) (by omega) (fun h442 => ?_) (fun h442 => ?_)
            · have _q := h442
              refine jx_inc (pc' := 170) (l' := jSto1 L 7 (.int (i32 ((s7 + (1)))))) (x := s7) rfl gL_7 (by decide) rfl rfl ?_
              obtain ⟨L443, eL443⟩ : ∃ q, q = jSto1 L 7 (.int (i32 ((s7 + (1))))) := ⟨_, rfl⟩
              rw [← eL443]
              have gL443_0 : jGet L443 0 = some (.ref 66) := eL443 ▸ jg_ne (by decide) gL_0 rfl
              have gL443_1 : jGet L443 1 = some (.int (i32 (many))) := eL443 ▸ jg_ne (by decide) gL_1 rfl
              have gL443_2 : jGet L443 2 = some (.int (i32 (row))) := eL443 ▸ jg_ne (by decide) gL_2 rfl
              have gL443_4 : jGet L443 4 = some (.int (i32 (kd))) := eL443 ▸ jg_ne (by decide) gL_4 rfl
              have gL443_5 : jGet L443 5 = some (.int (i32 (fr))) := eL443 ▸ jg_ne (by decide) gL_5 rfl
              have gL443_7 : jGet L443 7 = some (.int (i32 ((s7 + (1))))) := eL443 ▸ jg_eq
              refine jx_go (tg := 134) rfl rfl ?_
              have z444 := tz_f (tk3)
              have z445 := tz_f (fk3)
              exact ih134 _ (by omega) L443 Gx Ax (many) (row) (kd) (fr) ((s7 + (1))) (at3) (tk3) (fk3) rfl gL443_0 gL443_1 gL443_2 gL443_4 gL443_5 gL443_7 hWx hFx ((ex_at3)) ((ex_tk3)) ((ex_fk3)) ((fx_9)) ((fx_29)) ((fx_19)) ((fx_28)) (by omega) (by omega) (by omega) (by omega) (by omega) (by omega) (by omega) (by omega) (by omega) (by omega) (by omega) (by omega) (by omega) (by omega) (by omega)
            · have _q := h442
              refine jx_ld (pc' := 159) (l' := L) (st' := [.ref 66]) rfl (jl_aloadn gL_0) ?_
              refine jx_ar (pc' := 160) (st' := [.int (i32 (2)), .ref 66]) rfl rfl rfl rfl ?_
              refine jx_ld (pc' := 161) (l' := L) (st' := [.ref 66, .int (i32 (2)), .ref 66]) rfl (jl_aloadn gL_0) ?_
              have b446 : (-3000 : Int) ≤ Gx 12 ∧ Gx 12 ≤ 3002 := hWx.1 12
              refine jr_get (pc' := 164) (i := 12) (v := .int (i32 (Gx 12))) rfl rfl (by decide) rfl rfl ?_
              refine jx_vr (pc' := 167) (as := [.int (i32 (2)), .int (i32 (Gx 12))]) (st := []) rfl rfl rfl rfl ⟨rfl, rfl, Nat.le_of_ble_eq_true rfl⟩ rfl rfl (c_fail (dd := d) (hd := by omega) (hW := hWx) (kind := 2) (place := Gx 12) (fk := fk3) (e_fk := show Gx 16 = fk3 from (ex_fk3))  (h_kind := ⟨(by decide), (by decide)⟩) (h_place := ⟨(Int.le_trans (by decide : (-2147483648 : Int) ≤ -3000) b446.1), (Int.le_trans b446.2 (by decide : (3002 : Int) ≤ 2147483647))⟩)  (p_0 := by omega) (p_1 := by omega)) (fun o V' hq => ?_)
              obtain ⟨G447, A448, fk2_449, rfl, rfl, hW450, hF451, e452, p453, -⟩ := hq
              have hF455 := Fr_tr hFx hF451 (Fr_sub (by decide)) (Fr_sub (by decide))
              have zfk2_449 := tz_f fk2_449
              have bfk2_449 : (0 : Int) ≤ fk2_449 ∧ fk2_449 ≤ 6 := e452 ▸ hW450.1 16
              refine .inl ⟨rfl, ?_⟩
              refine jx_inc (pc' := 170) (l' := jSto1 L 7 (.int (i32 ((s7 + (1)))))) (x := s7) rfl gL_7 (by decide) rfl rfl ?_
              obtain ⟨L456, eL456⟩ : ∃ q, q = jSto1 L 7 (.int (i32 ((s7 + (1))))) := ⟨_, rfl⟩
              rw [← eL456]
              have gL456_0 : jGet L456 0 = some (.ref 66) := eL456 ▸ jg_ne (by decide) gL_0 rfl
              have gL456_1 : jGet L456 1 = some (.int (i32 (many))) := eL456 ▸ jg_ne (by decide) gL_1 rfl
              have gL456_2 : jGet L456 2 = some (.int (i32 (row))) := eL456 ▸ jg_ne (by decide) gL_2 rfl
              have gL456_4 : jGet L456 4 = some (.int (i32 (kd))) := eL456 ▸ jg_ne (by decide) gL_4 rfl
              have gL456_5 : jGet L456 5 = some (.int (i32 (fr))) := eL456 ▸ jg_ne (by decide) gL_5 rfl
              have gL456_7 : jGet L456 7 = some (.int (i32 ((s7 + (1))))) := eL456 ▸ jg_eq
              refine jx_go (tg := 134) rfl rfl ?_
              have z457 := tz_f (tk3)
              have z458 := tz_f (fk2_449)
              exact ih134 _ (by omega) L456 G447 A448 (many) (row) (kd) (fr) ((s7 + (1))) (at3) (tk3) (fk2_449) rfl gL456_0 gL456_1 gL456_2 gL456_4 gL456_5 gL456_7 hW450 hF455 (((hF451.1 10 rfl).trans (ex_at3))) (((hF451.1 11 rfl).trans (ex_tk3))) ((e452)) (((hF451.1 9 rfl).trans (fx_9))) (((hF451.1 29 rfl).trans (fx_29))) (((hF451.1 19 rfl).trans (fx_19))) (((hF451.1 28 rfl).trans (fx_28))) (by omega) (by omega) (by omega) (by omega) (by omega) (by omega) (by omega) (by omega) (by omega) (by omega) (by omega) (by omega) (by omega) (by omega) (by omega)
      refine jx_ld (pc' := 101) (l' := L) (st' := [.ref 66]) rfl (jl_aloadn gL_0) ?_
      refine jx_vr (pc' := 104) (as := []) (st := []) rfl rfl rfl rfl ⟨rfl, rfl, Nat.le_of_ble_eq_true rfl⟩ rfl rfl (c_bad (dd := d) (hd := by omega) (hW := hWx)  (fk := fk1) (e_fk := show Gx 16 = fk1 from (ex_fk1))    ) (fun o V' hq => ?_)
      obtain ⟨r459, rfl, rfl, b460, q461⟩ := hq
      refine .inr ⟨_, rfl, ?_⟩
      rcases q461 with ⟨rfl, a462⟩ | ⟨rfl, a463⟩
      · have _q : True := trivial
        refine jx_if_ne (pc' := 107) (tg := 215) rfl rfl rfl (by decide) (by decide) (fun h464 => ?_) (fun h464 => ?_)
        · have _q := h464
          have z465 := tz_f (tk1)
          have z466 := tz_f (fk1)
          exact at_215 L Gx Ax (fr) (at1) (tk1) (fk1) (sy1) (na1) gL_0 gL_5 hWx hFx ((ex_at1)) ((ex_tk1)) ((ex_fk1)) ((ex_sy1)) ((ex_na1)) ((fx_9)) ((fx_29)) (by omega) (by omega) (by omega) (by omega) (by omega) (by omega)
        · have _q := h464
          exact absurd h464 (by omega)
      · have _q : True := trivial
        refine jx_if_ne (pc' := 107) (tg := 215) rfl rfl rfl (by decide) (by decide) (fun h467 => ?_) (fun h467 => ?_)
        · have _q := h467
          exact absurd h467 (by omega)
        · have _q := h467
          refine jx_ld (pc' := 109) (l' := L) (st' := [.int (i32 (more))]) rfl (jl_iload gL_6) ?_
          refine jx_if_eq (pc' := 112) (tg := 215) rfl rfl rfl (Int.le_trans (by decide : (-2147483648 : Int) ≤ -2147483648) rx_more.1) (Int.le_trans rx_more.2 (by decide : (2147483647 : Int) ≤ 2147483647)) (fun h468 => ?_) (fun h468 => ?_)
          · have _q := h468
            have z469 := tz_f (tk1)
            have z470 := tz_f (fk1)
            exact at_215 L Gx Ax (fr) (at1) (tk1) (fk1) (sy1) (na1) gL_0 gL_5 hWx hFx ((ex_at1)) ((ex_tk1)) ((ex_fk1)) ((ex_sy1)) ((ex_na1)) ((fx_9)) ((fx_29)) (by omega) (by omega) (by omega) (by omega) (by omega) (by omega)
          · have _q := h468
            refine jx_ld (pc' := 113) (l' := L) (st' := [.ref 66]) rfl (jl_aloadn gL_0) ?_
            have z471 := tz_f (tk1)
            refine jr_get (pc' := 116) (i := 11) (v := .int (i32 (tk1))) rfl rfl (by decide) (rFv_eq (by decide) (show Gx 11 = tk1 from (ex_tk1))) rfl ?_
            refine jx_ar (pc' := 117) (st' := [.int (i32 (1)), .int (i32 (tk1))]) rfl rfl rfl rfl ?_
            refine jx_icmp_eq (pc' := 120) (tg := 130) rfl rfl rfl (Int.le_trans (by decide : (-2147483648 : Int) ≤ 0) b_tk1.1) (Int.le_trans b_tk1.2 (by decide : (5 : Int) ≤ 2147483647)) (by decide) (by decide) (fun h472 => ?_) (fun h472 => ?_)
            · have _q := h472
              refine jx_ld (pc' := 132) (l' := L) (st' := [.int (i32 (fr))]) rfl (jl_iload gL_5) ?_
              refine jx_ld (pc' := 134) (l' := jSto1 L 7 (.int (i32 (fr)))) (st' := []) rfl rfl ?_
              obtain ⟨L473, eL473⟩ : ∃ q, q = jSto1 L 7 (.int (i32 (fr))) := ⟨_, rfl⟩
              rw [← eL473]
              have gL473_0 : jGet L473 0 = some (.ref 66) := eL473 ▸ jg_ne (by decide) gL_0 rfl
              have gL473_1 : jGet L473 1 = some (.int (i32 (many))) := eL473 ▸ jg_ne (by decide) gL_1 rfl
              have gL473_2 : jGet L473 2 = some (.int (i32 (row))) := eL473 ▸ jg_ne (by decide) gL_2 rfl
              have gL473_4 : jGet L473 4 = some (.int (i32 (kd))) := eL473 ▸ jg_ne (by decide) gL_4 rfl
              have gL473_5 : jGet L473 5 = some (.int (i32 (fr))) := eL473 ▸ jg_ne (by decide) gL_5 rfl
              have gL473_6 : jGet L473 6 = some (.int (i32 (more))) := eL473 ▸ jg_ne (by decide) gL_6 rfl
              have gL473_7 : jGet L473 7 = some (.int (i32 (fr))) := eL473 ▸ jg_eq
              have z474 := tz_f (tk1)
              have z475 := tz_f (fk1)
              exact at_134 _ L473 Gx Ax (many) (row) (kd) (fr) (fr) (at1) (tk1) (fk1) rfl gL473_0 gL473_1 gL473_2 gL473_4 gL473_5 gL473_7 hWx hFx ((ex_at1)) ((ex_tk1)) ((ex_fk1)) ((fx_9)) ((fx_29)) ((ex_sy1)) ((ex_na1)) (by omega) (by omega) (by omega) (by omega) (by omega) (by omega) (by omega) (by omega) (by omega) (by omega) (by omega) (by omega) (by omega) (by omega) (by omega)
            · have _q := h472
              refine jx_ld (pc' := 121) (l' := L) (st' := [.ref 66]) rfl (jl_aloadn gL_0) ?_
              refine jx_ar (pc' := 122) (st' := [.int (i32 (1)), .ref 66]) rfl rfl rfl rfl ?_
              refine jx_ld (pc' := 123) (l' := L) (st' := [.ref 66, .int (i32 (1)), .ref 66]) rfl (jl_aloadn gL_0) ?_
              have b476 : (-3000 : Int) ≤ Gx 12 ∧ Gx 12 ≤ 3002 := hWx.1 12
              refine jr_get (pc' := 126) (i := 12) (v := .int (i32 (Gx 12))) rfl rfl (by decide) rfl rfl ?_
              refine jx_vr (pc' := 129) (as := [.int (i32 (1)), .int (i32 (Gx 12))]) (st := []) rfl rfl rfl rfl ⟨rfl, rfl, Nat.le_of_ble_eq_true rfl⟩ rfl rfl (c_fail (dd := d) (hd := by omega) (hW := hWx) (kind := 1) (place := Gx 12) (fk := fk1) (e_fk := show Gx 16 = fk1 from (ex_fk1))  (h_kind := ⟨(by decide), (by decide)⟩) (h_place := ⟨(Int.le_trans (by decide : (-2147483648 : Int) ≤ -3000) b476.1), (Int.le_trans b476.2 (by decide : (3002 : Int) ≤ 2147483647))⟩)  (p_0 := by omega) (p_1 := by omega)) (fun o V' hq => ?_)
              obtain ⟨G477, A478, fk2_479, rfl, rfl, hW480, hF481, e482, p483, -⟩ := hq
              have hF485 := Fr_tr hFx hF481 (Fr_sub (by decide)) (Fr_sub (by decide))
              have zfk2_479 := tz_f fk2_479
              have bfk2_479 : (0 : Int) ≤ fk2_479 ∧ fk2_479 ≤ 6 := e482 ▸ hW480.1 16
              refine .inl ⟨rfl, ?_⟩
              refine jx_rt (v := none) rfl rfl rfl rfl rfl rfl ?_
              exact ⟨_, _, at1, fk2_479, ln, sy1, na1, vi, rfl, rfl, hW480, hF485, ((hF481.1 10 rfl).trans (ex_at1)), (e482), ((hF481.1 9 rfl).trans (fx_9)), ((hF481.1 19 rfl).trans (ex_sy1)), ((hF481.1 28 rfl).trans (ex_na1)), ((hF481.1 29 rfl).trans (fx_29)), by omega, by omega, by omega, by omega, by omega, by omega, by first | exact Or.inl (⟨by omega, by omega⟩) | exact Or.inr ((⟨by omega, by omega⟩))⟩
  have at_91 : ∀ (L : jL) (Gx : Nat → Int) (Ax : Nat → Nat → Int) (many row kd at5 tk5 fk5 : Int), jGet L 0 = some (.ref 66) → jGet L 1 = some (.int (i32 many)) → jGet L 2 = some (.int (i32 row)) → jGet L 4 = some (.int (i32 kd)) → Wk Gx Ax → Fr [9, 10, 11, 12, 13, 14, 16, 17, 18, 19, 28, 29] [6, 7, 8, 9, 10, 11, 12, 14] G A Gx Ax → Gx 10 = at5 → Gx 11 = tk5 → Gx 16 = fk5 → Gx 9 = ln → Gx 29 = vi → Gx 19 = sy → Gx 28 = na → ((-2147483648 : Int) ≤ many ∧ many ≤ 2147483647) → ((-2147483648 : Int) ≤ row ∧ row ≤ 2147483647) → ((-2147483648 : Int) ≤ kd ∧ kd ≤ 2147483647) → (at0 ≤ at5) → (at5 ≤ le) → (0 ≤ row ∧ row ≤ 1) → (1 ≤ kd ∧ kd ≤ 4) → wj X d jm294 (91, L, [], rV c0 c1 Gx Ax T) (fun o V' => ∃ (G' : Nat → Int) (A' : Nat → Nat → Int) (at2 : Int) (fk2 : Int) (ln2 : Int) (sy2 : Int) (na2 : Int) (vi2 : Int), V' = rV c0 c1 G' A' T ∧ o = .inl none ∧ Wk G' A' ∧ Fr [9, 10, 11, 12, 13, 14, 16, 17, 18, 19, 28, 29] [6, 7, 8, 9, 10, 11, 12, 14] G A G' A' ∧ G' 10 = at2 ∧ G' 16 = fk2 ∧ G' 9 = ln2 ∧ G' 19 = sy2 ∧ G' 28 = na2 ∧ G' 29 = vi2 ∧ (at0 ≤ at2) ∧ (at2 ≤ le) ∧ (sy ≤ sy2) ∧ (sy2 ≤ na2 + 2) ∧ (vi ≤ vi2) ∧ (vi2 - vi ≤ sy2 - sy) ∧ (((1 ≤ fk2) ∧ (ln2 = ln ∨ ln2 = ln + 1)) ∨ ((fk2 = 0) ∧ (ln2 = ln + 1)))) := by
    intro L Gx Ax many row kd at5 tk5 fk5 gL_0 gL_1 gL_2 gL_4 hWx hFx ex_at5 ex_tk5 ex_fk5 fx_9 fx_29 fx_19 fx_28 rx_many rx_row rx_kd iv_0 iv_1 iv_2 iv_3
    have b_at5 : (0 : Int) ≤ at5 ∧ at5 ≤ 3002 := ex_at5 ▸ hWx.1 10
    have z_tk5 := tz_f tk5
    have b_tk5 : (0 : Int) ≤ tk5 ∧ tk5 ≤ 5 := ex_tk5 ▸ hWx.1 11
    have z_fk5 := tz_f fk5
    have b_fk5 : (0 : Int) ≤ fk5 ∧ fk5 ≤ 6 := ex_fk5 ▸ hWx.1 16
    refine jx_ld (pc' := 92) (l' := L) (st' := [.ref 66]) rfl (jl_aloadn gL_0) ?_
    refine jr_get (pc' := 95) (i := 19) (v := .int (i32 (sy))) rfl rfl (by decide) (rFv_eq (by decide) (show Gx 19 = sy from (fx_19))) rfl ?_
    refine jx_ld (pc' := 97) (l' := jSto1 L 5 (.int (i32 (sy)))) (st' := []) rfl rfl ?_
    obtain ⟨L486, eL486⟩ : ∃ q, q = jSto1 L 5 (.int (i32 (sy))) := ⟨_, rfl⟩
    rw [← eL486]
    have gL486_0 : jGet L486 0 = some (.ref 66) := eL486 ▸ jg_ne (by decide) gL_0 rfl
    have gL486_1 : jGet L486 1 = some (.int (i32 (many))) := eL486 ▸ jg_ne (by decide) gL_1 rfl
    have gL486_2 : jGet L486 2 = some (.int (i32 (row))) := eL486 ▸ jg_ne (by decide) gL_2 rfl
    have gL486_4 : jGet L486 4 = some (.int (i32 (kd))) := eL486 ▸ jg_ne (by decide) gL_4 rfl
    have gL486_5 : jGet L486 5 = some (.int (i32 (sy))) := eL486 ▸ jg_eq
    refine jx_ar (pc' := 98) (st' := [.int (i32 (1))]) rfl rfl rfl rfl ?_
    refine jx_ld (pc' := 100) (l' := jSto1 L486 6 (.int (i32 (1)))) (st' := []) rfl rfl ?_
    obtain ⟨L487, eL487⟩ : ∃ q, q = jSto1 L486 6 (.int (i32 (1))) := ⟨_, rfl⟩
    rw [← eL487]
    have gL487_0 : jGet L487 0 = some (.ref 66) := eL487 ▸ jg_ne (by decide) gL486_0 rfl
    have gL487_1 : jGet L487 1 = some (.int (i32 (many))) := eL487 ▸ jg_ne (by decide) gL486_1 rfl
    have gL487_2 : jGet L487 2 = some (.int (i32 (row))) := eL487 ▸ jg_ne (by decide) gL486_2 rfl
    have gL487_4 : jGet L487 4 = some (.int (i32 (kd))) := eL487 ▸ jg_ne (by decide) gL486_4 rfl
    have gL487_5 : jGet L487 5 = some (.int (i32 (sy))) := eL487 ▸ jg_ne (by decide) gL486_5 rfl
    have gL487_6 : jGet L487 6 = some (.int (i32 (1))) := eL487 ▸ jg_eq
    have z488 := tz_f (tk5)
    have z489 := tz_f (fk5)
    exact at_100 _ L487 Gx Ax (many) (row) (kd) (sy) (1) (at5) (tk5) (fk5) (sy) (na) rfl gL487_0 gL487_1 gL487_2 gL487_4 gL487_5 gL487_6 hWx hFx ((ex_at5)) ((ex_tk5)) ((ex_fk5)) ((fx_19)) ((fx_28)) ((fx_9)) ((fx_29)) (by omega) (by omega) (by omega) (by omega) (by omega) (by omega) (by omega) (by omega) (by omega) (by omega) (by omega) (by omega) (by omega)
  have at_35 : ∀ (L : jL) (Gx : Nat → Int) (Ax : Nat → Nat → Int) (many row at5 tk5 fk5 : Int), jGet L 0 = some (.ref 66) → jGet L 1 = some (.int (i32 many)) → jGet L 2 = some (.int (i32 row)) → Wk Gx Ax → Fr [9, 10, 11, 12, 13, 14, 16, 17, 18, 19, 28, 29] [6, 7, 8, 9, 10, 11, 12, 14] G A Gx Ax → Gx 10 = at5 → Gx 11 = tk5 → Gx 16 = fk5 → Gx 9 = ln → Gx 29 = vi → Gx 19 = sy → Gx 28 = na → ((-2147483648 : Int) ≤ many ∧ many ≤ 2147483647) → ((-2147483648 : Int) ≤ row ∧ row ≤ 2147483647) → (at0 ≤ at5) → (at5 ≤ le) → (0 ≤ row ∧ row ≤ 1) → wj X d jm294 (35, L, [], rV c0 c1 Gx Ax T) (fun o V' => ∃ (G' : Nat → Int) (A' : Nat → Nat → Int) (at2 : Int) (fk2 : Int) (ln2 : Int) (sy2 : Int) (na2 : Int) (vi2 : Int), V' = rV c0 c1 G' A' T ∧ o = .inl none ∧ Wk G' A' ∧ Fr [9, 10, 11, 12, 13, 14, 16, 17, 18, 19, 28, 29] [6, 7, 8, 9, 10, 11, 12, 14] G A G' A' ∧ G' 10 = at2 ∧ G' 16 = fk2 ∧ G' 9 = ln2 ∧ G' 19 = sy2 ∧ G' 28 = na2 ∧ G' 29 = vi2 ∧ (at0 ≤ at2) ∧ (at2 ≤ le) ∧ (sy ≤ sy2) ∧ (sy2 ≤ na2 + 2) ∧ (vi ≤ vi2) ∧ (vi2 - vi ≤ sy2 - sy) ∧ (((1 ≤ fk2) ∧ (ln2 = ln ∨ ln2 = ln + 1)) ∨ ((fk2 = 0) ∧ (ln2 = ln + 1)))) := by
    intro L Gx Ax many row at5 tk5 fk5 gL_0 gL_1 gL_2 hWx hFx ex_at5 ex_tk5 ex_fk5 fx_9 fx_29 fx_19 fx_28 rx_many rx_row iv_0 iv_1 iv_2
    have b_at5 : (0 : Int) ≤ at5 ∧ at5 ≤ 3002 := ex_at5 ▸ hWx.1 10
    have z_tk5 := tz_f tk5
    have b_tk5 : (0 : Int) ≤ tk5 ∧ tk5 ≤ 5 := ex_tk5 ▸ hWx.1 11
    have z_fk5 := tz_f fk5
    have b_fk5 : (0 : Int) ≤ fk5 ∧ fk5 ≤ 6 := ex_fk5 ▸ hWx.1 16
    refine jx_ld (pc' := 36) (l' := L) (st' := [.ref 66]) rfl (jl_aloadn gL_0) ?_
    refine jx_ar (pc' := 38) (st' := [.int (i32 (9)), .ref 66]) rfl rfl rfl rfl ?_
    have b490 : (-2147483648 : Int) ≤ Gx 13 ∧ Gx 13 ≤ 2147483647 := hWx.1 13
    refine jx_vr (pc' := 41) (as := [.int (i32 (9))]) (st := []) rfl rfl rfl rfl ⟨rfl, rfl, Nat.le_of_ble_eq_true rfl⟩ rfl rfl (c_isKey (dd := d) (hd := by omega) (hW := hWx) (k := 9) (tk := tk5) (e_tk := show Gx 11 = tk5 from (ex_tk5)) (tn := Gx 13) (e_tn := show Gx 13 = Gx 13 from rfl)  (h_k := ⟨(by decide), (by decide)⟩)  ) (fun o V' hq => ?_)
    obtain ⟨r491, rfl, rfl, b492, q493⟩ := hq
    refine .inr ⟨_, rfl, ?_⟩
    rcases q493 with ⟨rfl, a494, a495, a496⟩ | rfl
    · have _q : True := trivial
      refine jx_ld (pc' := 42) (l' := jSto1 L 3 (.int (i32 (1)))) (st' := []) rfl rfl ?_
      obtain ⟨L497, eL497⟩ : ∃ q, q = jSto1 L 3 (.int (i32 (1))) := ⟨_, rfl⟩
      rw [← eL497]
      have gL497_0 : jGet L497 0 = some (.ref 66) := eL497 ▸ jg_ne (by decide) gL_0 rfl
      have gL497_1 : jGet L497 1 = some (.int (i32 (many))) := eL497 ▸ jg_ne (by decide) gL_1 rfl
      have gL497_2 : jGet L497 2 = some (.int (i32 (row))) := eL497 ▸ jg_ne (by decide) gL_2 rfl
      have gL497_3 : jGet L497 3 = some (.int (i32 (1))) := eL497 ▸ jg_eq
      refine jx_ld (pc' := 43) (l' := L497) (st' := [.ref 66]) rfl (jl_aloadn gL497_0) ?_
      refine jx_ld (pc' := 44) (l' := L497) (st' := [.int (i32 (1)), .ref 66]) rfl (jl_iloadn gL497_3) ?_
      refine jx_if_ne (pc' := 47) (tg := 56) rfl rfl rfl (by decide) (by decide) (fun h498 => ?_) (fun h498 => ?_)
      · have _q := h498
        refine jx_ar (pc' := 57) (st' := [.int (i32 (1)), .ref 66]) rfl rfl rfl rfl ?_
        refine jx_go (tg := 61) rfl rfl ?_
        refine jx_vr (pc' := 64) (as := [.int (i32 (1))]) (st := []) rfl rfl rfl rfl ⟨rfl, rfl, Nat.le_of_ble_eq_true rfl⟩ rfl rfl (c_need (dd := d) (hd := by omega) (hW := hWx) (g := 1) (ln := ln) (e_ln := show Gx 9 = ln from (fx_9)) (le := le) (e_le := show Ax 4 (ln).toNat = le from (congrFun (hFx.2 4 rfl) _).trans (e_le)) (at0 := at5) (e_at0 := show Gx 10 = at5 from (ex_at5)) (fk := fk5) (e_fk := show Gx 16 = fk5 from (ex_fk5)) (tk0 := tk5) (e_tk0 := show Gx 11 = tk5 from (ex_tk5))  (h_g := ⟨(by decide), (by decide)⟩)  (p_0 := by omega)) (fun o V' hq => ?_)
        obtain ⟨G499, A500, at2_501, tk2_502, fk2_503, rfl, rfl, hW504, hF505, e506, e507, e508, p509, p510, q511⟩ := hq
        have hF512 := Fr_tr hFx hF505 (Fr_sub (by decide)) (Fr_sub (by decide))
        have bat2_501 : (0 : Int) ≤ at2_501 ∧ at2_501 ≤ 3002 := e506 ▸ hW504.1 10
        have ztk2_502 := tz_b tk2_502
        have btk2_502 : (0 : Int) ≤ tk2_502 ∧ tk2_502 ≤ 5 := e507 ▸ hW504.1 11
        have zfk2_503 := tz_f fk2_503
        have bfk2_503 : (0 : Int) ≤ fk2_503 ∧ fk2_503 ≤ 6 := e508 ▸ hW504.1 16
        refine .inl ⟨rfl, ?_⟩
        rcases q511 with ⟨a513, a514, a515, a516⟩ | ⟨a517, a518, a519, a520⟩
        · have _q : True := trivial
          refine jx_ld (pc' := 65) (l' := L497) (st' := [.int (i32 (1))]) rfl (jl_iloadn gL497_3) ?_
          refine jx_if_eq (pc' := 68) (tg := 80) rfl rfl rfl (by decide) (by decide) (fun h521 => ?_) (fun h521 => ?_)
          · have _q := h521
            exact absurd h521 (by omega)
          · have _q := h521
            refine jx_ld (pc' := 69) (l' := L497) (st' := [.int (i32 (row))]) rfl (jl_iloadn gL497_2) ?_
            refine jx_if_eq (pc' := 72) (tg := 76) rfl rfl rfl (Int.le_trans (by decide : (-2147483648 : Int) ≤ -2147483648) rx_row.1) (Int.le_trans rx_row.2 (by decide : (2147483647 : Int) ≤ 2147483647)) (fun h522 => ?_) (fun h522 => ?_)
            · have _q := h522
              refine jx_ar (pc' := 77) (st' := [.int (i32 (1))]) rfl rfl rfl rfl ?_
              refine jx_go (tg := 89) rfl rfl ?_
              refine jx_ld (pc' := 91) (l' := jSto1 L497 4 (.int (i32 (1)))) (st' := []) rfl rfl ?_
              obtain ⟨L523, eL523⟩ : ∃ q, q = jSto1 L497 4 (.int (i32 (1))) := ⟨_, rfl⟩
              rw [← eL523]
              have gL523_0 : jGet L523 0 = some (.ref 66) := eL523 ▸ jg_ne (by decide) gL497_0 rfl
              have gL523_1 : jGet L523 1 = some (.int (i32 (many))) := eL523 ▸ jg_ne (by decide) gL497_1 rfl
              have gL523_2 : jGet L523 2 = some (.int (i32 (row))) := eL523 ▸ jg_ne (by decide) gL497_2 rfl
              have gL523_3 : jGet L523 3 = some (.int (i32 (1))) := eL523 ▸ jg_ne (by decide) gL497_3 rfl
              have gL523_4 : jGet L523 4 = some (.int (i32 (1))) := eL523 ▸ jg_eq
              have z524 := tz_f (tk2_502)
              have z525 := tz_f (fk2_503)
              exact at_91 L523 G499 A500 (many) (row) (1) (at2_501) (tk2_502) (fk2_503) gL523_0 gL523_1 gL523_2 gL523_4 hW504 hF512 ((e506)) ((e507)) ((e508)) (((hF505.1 9 rfl).trans (fx_9))) (((hF505.1 29 rfl).trans (fx_29))) (((hF505.1 19 rfl).trans (fx_19))) (((hF505.1 28 rfl).trans (fx_28))) (by omega) (by omega) (by omega) (by omega) (by omega) (by omega) (by omega)
            · have _q := h522
              refine jx_ar (pc' := 73) (st' := [.int (i32 (2))]) rfl rfl rfl rfl ?_
              refine jx_go (tg := 89) rfl rfl ?_
              refine jx_ld (pc' := 91) (l' := jSto1 L497 4 (.int (i32 (2)))) (st' := []) rfl rfl ?_
              obtain ⟨L526, eL526⟩ : ∃ q, q = jSto1 L497 4 (.int (i32 (2))) := ⟨_, rfl⟩
              rw [← eL526]
              have gL526_0 : jGet L526 0 = some (.ref 66) := eL526 ▸ jg_ne (by decide) gL497_0 rfl
              have gL526_1 : jGet L526 1 = some (.int (i32 (many))) := eL526 ▸ jg_ne (by decide) gL497_1 rfl
              have gL526_2 : jGet L526 2 = some (.int (i32 (row))) := eL526 ▸ jg_ne (by decide) gL497_2 rfl
              have gL526_3 : jGet L526 3 = some (.int (i32 (1))) := eL526 ▸ jg_ne (by decide) gL497_3 rfl
              have gL526_4 : jGet L526 4 = some (.int (i32 (2))) := eL526 ▸ jg_eq
              have z527 := tz_f (tk2_502)
              have z528 := tz_f (fk2_503)
              exact at_91 L526 G499 A500 (many) (row) (2) (at2_501) (tk2_502) (fk2_503) gL526_0 gL526_1 gL526_2 gL526_4 hW504 hF512 ((e506)) ((e507)) ((e508)) (((hF505.1 9 rfl).trans (fx_9))) (((hF505.1 29 rfl).trans (fx_29))) (((hF505.1 19 rfl).trans (fx_19))) (((hF505.1 28 rfl).trans (fx_28))) (by omega) (by omega) (by omega) (by omega) (by omega) (by omega) (by omega)
        · have _q : True := trivial
          refine jx_ld (pc' := 65) (l' := L497) (st' := [.int (i32 (1))]) rfl (jl_iloadn gL497_3) ?_
          refine jx_if_eq (pc' := 68) (tg := 80) rfl rfl rfl (by decide) (by decide) (fun h529 => ?_) (fun h529 => ?_)
          · have _q := h529
            exact absurd h529 (by omega)
          · have _q := h529
            refine jx_ld (pc' := 69) (l' := L497) (st' := [.int (i32 (row))]) rfl (jl_iloadn gL497_2) ?_
            refine jx_if_eq (pc' := 72) (tg := 76) rfl rfl rfl (Int.le_trans (by decide : (-2147483648 : Int) ≤ -2147483648) rx_row.1) (Int.le_trans rx_row.2 (by decide : (2147483647 : Int) ≤ 2147483647)) (fun h530 => ?_) (fun h530 => ?_)
            · have _q := h530
              refine jx_ar (pc' := 77) (st' := [.int (i32 (1))]) rfl rfl rfl rfl ?_
              refine jx_go (tg := 89) rfl rfl ?_
              refine jx_ld (pc' := 91) (l' := jSto1 L497 4 (.int (i32 (1)))) (st' := []) rfl rfl ?_
              obtain ⟨L531, eL531⟩ : ∃ q, q = jSto1 L497 4 (.int (i32 (1))) := ⟨_, rfl⟩
              rw [← eL531]
              have gL531_0 : jGet L531 0 = some (.ref 66) := eL531 ▸ jg_ne (by decide) gL497_0 rfl
              have gL531_1 : jGet L531 1 = some (.int (i32 (many))) := eL531 ▸ jg_ne (by decide) gL497_1 rfl
              have gL531_2 : jGet L531 2 = some (.int (i32 (row))) := eL531 ▸ jg_ne (by decide) gL497_2 rfl
              have gL531_3 : jGet L531 3 = some (.int (i32 (1))) := eL531 ▸ jg_ne (by decide) gL497_3 rfl
              have gL531_4 : jGet L531 4 = some (.int (i32 (1))) := eL531 ▸ jg_eq
              have z532 := tz_f (tk2_502)
              have z533 := tz_f (fk2_503)
              exact at_91 L531 G499 A500 (many) (row) (1) (at2_501) (tk2_502) (fk2_503) gL531_0 gL531_1 gL531_2 gL531_4 hW504 hF512 ((e506)) ((e507)) ((e508)) (((hF505.1 9 rfl).trans (fx_9))) (((hF505.1 29 rfl).trans (fx_29))) (((hF505.1 19 rfl).trans (fx_19))) (((hF505.1 28 rfl).trans (fx_28))) (by omega) (by omega) (by omega) (by omega) (by omega) (by omega) (by omega)
            · have _q := h530
              refine jx_ar (pc' := 73) (st' := [.int (i32 (2))]) rfl rfl rfl rfl ?_
              refine jx_go (tg := 89) rfl rfl ?_
              refine jx_ld (pc' := 91) (l' := jSto1 L497 4 (.int (i32 (2)))) (st' := []) rfl rfl ?_
              obtain ⟨L534, eL534⟩ : ∃ q, q = jSto1 L497 4 (.int (i32 (2))) := ⟨_, rfl⟩
              rw [← eL534]
              have gL534_0 : jGet L534 0 = some (.ref 66) := eL534 ▸ jg_ne (by decide) gL497_0 rfl
              have gL534_1 : jGet L534 1 = some (.int (i32 (many))) := eL534 ▸ jg_ne (by decide) gL497_1 rfl
              have gL534_2 : jGet L534 2 = some (.int (i32 (row))) := eL534 ▸ jg_ne (by decide) gL497_2 rfl
              have gL534_3 : jGet L534 3 = some (.int (i32 (1))) := eL534 ▸ jg_ne (by decide) gL497_3 rfl
              have gL534_4 : jGet L534 4 = some (.int (i32 (2))) := eL534 ▸ jg_eq
              have z535 := tz_f (tk2_502)
              have z536 := tz_f (fk2_503)
              exact at_91 L534 G499 A500 (many) (row) (2) (at2_501) (tk2_502) (fk2_503) gL534_0 gL534_1 gL534_2 gL534_4 hW504 hF512 ((e506)) ((e507)) ((e508)) (((hF505.1 9 rfl).trans (fx_9))) (((hF505.1 29 rfl).trans (fx_29))) (((hF505.1 19 rfl).trans (fx_19))) (((hF505.1 28 rfl).trans (fx_28))) (by omega) (by omega) (by omega) (by omega) (by omega) (by omega) (by omega)
      · have _q := h498
        exact absurd h498 (by omega)
    · have _q : True := trivial
      refine jx_ld (pc' := 42) (l' := jSto1 L 3 (.int (i32 (0)))) (st' := []) rfl rfl ?_
      obtain ⟨L537, eL537⟩ : ∃ q, q = jSto1 L 3 (.int (i32 (0))) := ⟨_, rfl⟩
      rw [← eL537]
      have gL537_0 : jGet L537 0 = some (.ref 66) := eL537 ▸ jg_ne (by decide) gL_0 rfl
      have gL537_1 : jGet L537 1 = some (.int (i32 (many))) := eL537 ▸ jg_ne (by decide) gL_1 rfl
      have gL537_2 : jGet L537 2 = some (.int (i32 (row))) := eL537 ▸ jg_ne (by decide) gL_2 rfl
      have gL537_3 : jGet L537 3 = some (.int (i32 (0))) := eL537 ▸ jg_eq
      refine jx_ld (pc' := 43) (l' := L537) (st' := [.ref 66]) rfl (jl_aloadn gL537_0) ?_
      refine jx_ld (pc' := 44) (l' := L537) (st' := [.int (i32 (0)), .ref 66]) rfl (jl_iloadn gL537_3) ?_
      refine jx_if_ne (pc' := 47) (tg := 56) rfl rfl rfl (by decide) (by decide) (fun h538 => ?_) (fun h538 => ?_)
      · have _q := h538
        exact absurd h538 (by omega)
      · have _q := h538
        refine jx_ld (pc' := 48) (l' := L537) (st' := [.ref 66, .ref 66]) rfl (jl_aloadn gL537_0) ?_
        refine jx_ar (pc' := 50) (st' := [.int (i32 (10)), .ref 66, .ref 66]) rfl rfl rfl rfl ?_
        refine jx_vr (pc' := 53) (as := [.int (i32 (10))]) (st := [.ref 66]) rfl rfl rfl rfl ⟨rfl, rfl, Nat.le_of_ble_eq_true rfl⟩ rfl rfl (c_isKey (dd := d) (hd := by omega) (hW := hWx) (k := 10) (tk := tk5) (e_tk := show Gx 11 = tk5 from (ex_tk5)) (tn := Gx 13) (e_tn := show Gx 13 = Gx 13 from rfl)  (h_k := ⟨(by decide), (by decide)⟩)  ) (fun o V' hq => ?_)
        obtain ⟨r539, rfl, rfl, b540, q541⟩ := hq
        refine .inr ⟨_, rfl, ?_⟩
        rcases q541 with ⟨rfl, a542, a543, a544⟩ | rfl
        · have _q : True := trivial
          refine jx_if_eq (pc' := 56) (tg := 60) rfl rfl rfl (by decide) (by decide) (fun h545 => ?_) (fun h545 => ?_)
          · have _q := h545
            exact absurd h545 (by omega)
          · have _q := h545
            refine jx_ar (pc' := 57) (st' := [.int (i32 (1)), .ref 66]) rfl rfl rfl rfl ?_
            refine jx_go (tg := 61) rfl rfl ?_
            refine jx_vr (pc' := 64) (as := [.int (i32 (1))]) (st := []) rfl rfl rfl rfl ⟨rfl, rfl, Nat.le_of_ble_eq_true rfl⟩ rfl rfl (c_need (dd := d) (hd := by omega) (hW := hWx) (g := 1) (ln := ln) (e_ln := show Gx 9 = ln from (fx_9)) (le := le) (e_le := show Ax 4 (ln).toNat = le from (congrFun (hFx.2 4 rfl) _).trans (e_le)) (at0 := at5) (e_at0 := show Gx 10 = at5 from (ex_at5)) (fk := fk5) (e_fk := show Gx 16 = fk5 from (ex_fk5)) (tk0 := tk5) (e_tk0 := show Gx 11 = tk5 from (ex_tk5))  (h_g := ⟨(by decide), (by decide)⟩)  (p_0 := by omega)) (fun o V' hq => ?_)
            obtain ⟨G546, A547, at2_548, tk2_549, fk2_550, rfl, rfl, hW551, hF552, e553, e554, e555, p556, p557, q558⟩ := hq
            have hF559 := Fr_tr hFx hF552 (Fr_sub (by decide)) (Fr_sub (by decide))
            have bat2_548 : (0 : Int) ≤ at2_548 ∧ at2_548 ≤ 3002 := e553 ▸ hW551.1 10
            have ztk2_549 := tz_b tk2_549
            have btk2_549 : (0 : Int) ≤ tk2_549 ∧ tk2_549 ≤ 5 := e554 ▸ hW551.1 11
            have zfk2_550 := tz_f fk2_550
            have bfk2_550 : (0 : Int) ≤ fk2_550 ∧ fk2_550 ≤ 6 := e555 ▸ hW551.1 16
            refine .inl ⟨rfl, ?_⟩
            rcases q558 with ⟨a560, a561, a562, a563⟩ | ⟨a564, a565, a566, a567⟩
            · have _q : True := trivial
              refine jx_ld (pc' := 65) (l' := L537) (st' := [.int (i32 (0))]) rfl (jl_iloadn gL537_3) ?_
              refine jx_if_eq (pc' := 68) (tg := 80) rfl rfl rfl (by decide) (by decide) (fun h568 => ?_) (fun h568 => ?_)
              · have _q := h568
                refine jx_ld (pc' := 81) (l' := L537) (st' := [.int (i32 (row))]) rfl (jl_iloadn gL537_2) ?_
                refine jx_if_eq (pc' := 84) (tg := 88) rfl rfl rfl (Int.le_trans (by decide : (-2147483648 : Int) ≤ -2147483648) rx_row.1) (Int.le_trans rx_row.2 (by decide : (2147483647 : Int) ≤ 2147483647)) (fun h569 => ?_) (fun h569 => ?_)
                · have _q := h569
                  refine jx_ar (pc' := 89) (st' := [.int (i32 (3))]) rfl rfl rfl rfl ?_
                  refine jx_ld (pc' := 91) (l' := jSto1 L537 4 (.int (i32 (3)))) (st' := []) rfl rfl ?_
                  obtain ⟨L570, eL570⟩ : ∃ q, q = jSto1 L537 4 (.int (i32 (3))) := ⟨_, rfl⟩
                  rw [← eL570]
                  have gL570_0 : jGet L570 0 = some (.ref 66) := eL570 ▸ jg_ne (by decide) gL537_0 rfl
                  have gL570_1 : jGet L570 1 = some (.int (i32 (many))) := eL570 ▸ jg_ne (by decide) gL537_1 rfl
                  have gL570_2 : jGet L570 2 = some (.int (i32 (row))) := eL570 ▸ jg_ne (by decide) gL537_2 rfl
                  have gL570_3 : jGet L570 3 = some (.int (i32 (0))) := eL570 ▸ jg_ne (by decide) gL537_3 rfl
                  have gL570_4 : jGet L570 4 = some (.int (i32 (3))) := eL570 ▸ jg_eq
                  have z571 := tz_f (tk2_549)
                  have z572 := tz_f (fk2_550)
                  exact at_91 L570 G546 A547 (many) (row) (3) (at2_548) (tk2_549) (fk2_550) gL570_0 gL570_1 gL570_2 gL570_4 hW551 hF559 ((e553)) ((e554)) ((e555)) (((hF552.1 9 rfl).trans (fx_9))) (((hF552.1 29 rfl).trans (fx_29))) (((hF552.1 19 rfl).trans (fx_19))) (((hF552.1 28 rfl).trans (fx_28))) (by omega) (by omega) (by omega) (by omega) (by omega) (by omega) (by omega)
                · have _q := h569
                  refine jx_ar (pc' := 85) (st' := [.int (i32 (4))]) rfl rfl rfl rfl ?_
                  refine jx_go (tg := 89) rfl rfl ?_
                  refine jx_ld (pc' := 91) (l' := jSto1 L537 4 (.int (i32 (4)))) (st' := []) rfl rfl ?_
                  obtain ⟨L573, eL573⟩ : ∃ q, q = jSto1 L537 4 (.int (i32 (4))) := ⟨_, rfl⟩
                  rw [← eL573]
                  have gL573_0 : jGet L573 0 = some (.ref 66) := eL573 ▸ jg_ne (by decide) gL537_0 rfl
                  have gL573_1 : jGet L573 1 = some (.int (i32 (many))) := eL573 ▸ jg_ne (by decide) gL537_1 rfl
                  have gL573_2 : jGet L573 2 = some (.int (i32 (row))) := eL573 ▸ jg_ne (by decide) gL537_2 rfl
                  have gL573_3 : jGet L573 3 = some (.int (i32 (0))) := eL573 ▸ jg_ne (by decide) gL537_3 rfl
                  have gL573_4 : jGet L573 4 = some (.int (i32 (4))) := eL573 ▸ jg_eq
                  have z574 := tz_f (tk2_549)
                  have z575 := tz_f (fk2_550)
                  exact at_91 L573 G546 A547 (many) (row) (4) (at2_548) (tk2_549) (fk2_550) gL573_0 gL573_1 gL573_2 gL573_4 hW551 hF559 ((e553)) ((e554)) ((e555)) (((hF552.1 9 rfl).trans (fx_9))) (((hF552.1 29 rfl).trans (fx_29))) (((hF552.1 19 rfl).trans (fx_19))) (((hF552.1 28 rfl).trans (fx_28))) (by omega) (by omega) (by omega) (by omega) (by omega) (by omega) (by omega)
              · have _q := h568
                exact absurd h568 (by omega)
            · have _q : True := trivial
              refine jx_ld (pc' := 65) (l' := L537) (st' := [.int (i32 (0))]) rfl (jl_iloadn gL537_3) ?_
              refine jx_if_eq (pc' := 68) (tg := 80) rfl rfl rfl (by decide) (by decide) (fun h576 => ?_) (fun h576 => ?_)
              · have _q := h576
                refine jx_ld (pc' := 81) (l' := L537) (st' := [.int (i32 (row))]) rfl (jl_iloadn gL537_2) ?_
                refine jx_if_eq (pc' := 84) (tg := 88) rfl rfl rfl (Int.le_trans (by decide : (-2147483648 : Int) ≤ -2147483648) rx_row.1) (Int.le_trans rx_row.2 (by decide : (2147483647 : Int) ≤ 2147483647)) (fun h577 => ?_) (fun h577 => ?_)
                · have _q := h577
                  refine jx_ar (pc' := 89) (st' := [.int (i32 (3))]) rfl rfl rfl rfl ?_
                  refine jx_ld (pc' := 91) (l' := jSto1 L537 4 (.int (i32 (3)))) (st' := []) rfl rfl ?_
                  obtain ⟨L578, eL578⟩ : ∃ q, q = jSto1 L537 4 (.int (i32 (3))) := ⟨_, rfl⟩
                  rw [← eL578]
                  have gL578_0 : jGet L578 0 = some (.ref 66) := eL578 ▸ jg_ne (by decide) gL537_0 rfl
                  have gL578_1 : jGet L578 1 = some (.int (i32 (many))) := eL578 ▸ jg_ne (by decide) gL537_1 rfl
                  have gL578_2 : jGet L578 2 = some (.int (i32 (row))) := eL578 ▸ jg_ne (by decide) gL537_2 rfl
                  have gL578_3 : jGet L578 3 = some (.int (i32 (0))) := eL578 ▸ jg_ne (by decide) gL537_3 rfl
                  have gL578_4 : jGet L578 4 = some (.int (i32 (3))) := eL578 ▸ jg_eq
                  have z579 := tz_f (tk2_549)
                  have z580 := tz_f (fk2_550)
                  exact at_91 L578 G546 A547 (many) (row) (3) (at2_548) (tk2_549) (fk2_550) gL578_0 gL578_1 gL578_2 gL578_4 hW551 hF559 ((e553)) ((e554)) ((e555)) (((hF552.1 9 rfl).trans (fx_9))) (((hF552.1 29 rfl).trans (fx_29))) (((hF552.1 19 rfl).trans (fx_19))) (((hF552.1 28 rfl).trans (fx_28))) (by omega) (by omega) (by omega) (by omega) (by omega) (by omega) (by omega)
                · have _q := h577
                  refine jx_ar (pc' := 85) (st' := [.int (i32 (4))]) rfl rfl rfl rfl ?_
                  refine jx_go (tg := 89) rfl rfl ?_
                  refine jx_ld (pc' := 91) (l' := jSto1 L537 4 (.int (i32 (4)))) (st' := []) rfl rfl ?_
                  obtain ⟨L581, eL581⟩ : ∃ q, q = jSto1 L537 4 (.int (i32 (4))) := ⟨_, rfl⟩
                  rw [← eL581]
                  have gL581_0 : jGet L581 0 = some (.ref 66) := eL581 ▸ jg_ne (by decide) gL537_0 rfl
                  have gL581_1 : jGet L581 1 = some (.int (i32 (many))) := eL581 ▸ jg_ne (by decide) gL537_1 rfl
                  have gL581_2 : jGet L581 2 = some (.int (i32 (row))) := eL581 ▸ jg_ne (by decide) gL537_2 rfl
                  have gL581_3 : jGet L581 3 = some (.int (i32 (0))) := eL581 ▸ jg_ne (by decide) gL537_3 rfl
                  have gL581_4 : jGet L581 4 = some (.int (i32 (4))) := eL581 ▸ jg_eq
                  have z582 := tz_f (tk2_549)
                  have z583 := tz_f (fk2_550)
                  exact at_91 L581 G546 A547 (many) (row) (4) (at2_548) (tk2_549) (fk2_550) gL581_0 gL581_1 gL581_2 gL581_4 hW551 hF559 ((e553)) ((e554)) ((e555)) (((hF552.1 9 rfl).trans (fx_9))) (((hF552.1 29 rfl).trans (fx_29))) (((hF552.1 19 rfl).trans (fx_19))) (((hF552.1 28 rfl).trans (fx_28))) (by omega) (by omega) (by omega) (by omega) (by omega) (by omega) (by omega)
              · have _q := h576
                exact absurd h576 (by omega)
        · have _q : True := trivial
          refine jx_if_eq (pc' := 56) (tg := 60) rfl rfl rfl (by decide) (by decide) (fun h584 => ?_) (fun h584 => ?_)
          · have _q := h584
            refine jx_ar (pc' := 61) (st' := [.int (i32 (0)), .ref 66]) rfl rfl rfl rfl ?_
            refine jx_vr (pc' := 64) (as := [.int (i32 (0))]) (st := []) rfl rfl rfl rfl ⟨rfl, rfl, Nat.le_of_ble_eq_true rfl⟩ rfl rfl (c_need (dd := d) (hd := by omega) (hW := hWx) (g := 0) (ln := ln) (e_ln := show Gx 9 = ln from (fx_9)) (le := le) (e_le := show Ax 4 (ln).toNat = le from (congrFun (hFx.2 4 rfl) _).trans (e_le)) (at0 := at5) (e_at0 := show Gx 10 = at5 from (ex_at5)) (fk := fk5) (e_fk := show Gx 16 = fk5 from (ex_fk5)) (tk0 := tk5) (e_tk0 := show Gx 11 = tk5 from (ex_tk5))  (h_g := ⟨(by decide), (by decide)⟩)  (p_0 := by omega)) (fun o V' hq => ?_)
            obtain ⟨G585, A586, at2_587, tk2_588, fk2_589, rfl, rfl, hW590, hF591, e592, e593, e594, p595, p596, q597⟩ := hq
            have hF598 := Fr_tr hFx hF591 (Fr_sub (by decide)) (Fr_sub (by decide))
            have bat2_587 : (0 : Int) ≤ at2_587 ∧ at2_587 ≤ 3002 := e592 ▸ hW590.1 10
            have ztk2_588 := tz_b tk2_588
            have btk2_588 : (0 : Int) ≤ tk2_588 ∧ tk2_588 ≤ 5 := e593 ▸ hW590.1 11
            have zfk2_589 := tz_f fk2_589
            have bfk2_589 : (0 : Int) ≤ fk2_589 ∧ fk2_589 ≤ 6 := e594 ▸ hW590.1 16
            refine .inl ⟨rfl, ?_⟩
            rcases q597 with ⟨a599, a600, a601, a602⟩ | ⟨a603, a604, a605, a606⟩
            · have _q : True := trivial
              refine jx_ld (pc' := 65) (l' := L537) (st' := [.int (i32 (0))]) rfl (jl_iloadn gL537_3) ?_
              refine jx_if_eq (pc' := 68) (tg := 80) rfl rfl rfl (by decide) (by decide) (fun h607 => ?_) (fun h607 => ?_)
              · have _q := h607
                refine jx_ld (pc' := 81) (l' := L537) (st' := [.int (i32 (row))]) rfl (jl_iloadn gL537_2) ?_
                refine jx_if_eq (pc' := 84) (tg := 88) rfl rfl rfl (Int.le_trans (by decide : (-2147483648 : Int) ≤ -2147483648) rx_row.1) (Int.le_trans rx_row.2 (by decide : (2147483647 : Int) ≤ 2147483647)) (fun h608 => ?_) (fun h608 => ?_)
                · have _q := h608
                  refine jx_ar (pc' := 89) (st' := [.int (i32 (3))]) rfl rfl rfl rfl ?_
                  refine jx_ld (pc' := 91) (l' := jSto1 L537 4 (.int (i32 (3)))) (st' := []) rfl rfl ?_
                  obtain ⟨L609, eL609⟩ : ∃ q, q = jSto1 L537 4 (.int (i32 (3))) := ⟨_, rfl⟩
                  rw [← eL609]
                  have gL609_0 : jGet L609 0 = some (.ref 66) := eL609 ▸ jg_ne (by decide) gL537_0 rfl
                  have gL609_1 : jGet L609 1 = some (.int (i32 (many))) := eL609 ▸ jg_ne (by decide) gL537_1 rfl
                  have gL609_2 : jGet L609 2 = some (.int (i32 (row))) := eL609 ▸ jg_ne (by decide) gL537_2 rfl
                  have gL609_3 : jGet L609 3 = some (.int (i32 (0))) := eL609 ▸ jg_ne (by decide) gL537_3 rfl
                  have gL609_4 : jGet L609 4 = some (.int (i32 (3))) := eL609 ▸ jg_eq
                  have z610 := tz_f (tk2_588)
                  have z611 := tz_f (fk2_589)
                  exact at_91 L609 G585 A586 (many) (row) (3) (at2_587) (tk2_588) (fk2_589) gL609_0 gL609_1 gL609_2 gL609_4 hW590 hF598 ((e592)) ((e593)) ((e594)) (((hF591.1 9 rfl).trans (fx_9))) (((hF591.1 29 rfl).trans (fx_29))) (((hF591.1 19 rfl).trans (fx_19))) (((hF591.1 28 rfl).trans (fx_28))) (by omega) (by omega) (by omega) (by omega) (by omega) (by omega) (by omega)
                · have _q := h608
                  refine jx_ar (pc' := 85) (st' := [.int (i32 (4))]) rfl rfl rfl rfl ?_
                  refine jx_go (tg := 89) rfl rfl ?_
                  refine jx_ld (pc' := 91) (l' := jSto1 L537 4 (.int (i32 (4)))) (st' := []) rfl rfl ?_
                  obtain ⟨L612, eL612⟩ : ∃ q, q = jSto1 L537 4 (.int (i32 (4))) := ⟨_, rfl⟩
                  rw [← eL612]
                  have gL612_0 : jGet L612 0 = some (.ref 66) := eL612 ▸ jg_ne (by decide) gL537_0 rfl
                  have gL612_1 : jGet L612 1 = some (.int (i32 (many))) := eL612 ▸ jg_ne (by decide) gL537_1 rfl
                  have gL612_2 : jGet L612 2 = some (.int (i32 (row))) := eL612 ▸ jg_ne (by decide) gL537_2 rfl
                  have gL612_3 : jGet L612 3 = some (.int (i32 (0))) := eL612 ▸ jg_ne (by decide) gL537_3 rfl
                  have gL612_4 : jGet L612 4 = some (.int (i32 (4))) := eL612 ▸ jg_eq
                  have z613 := tz_f (tk2_588)
                  have z614 := tz_f (fk2_589)
                  exact at_91 L612 G585 A586 (many) (row) (4) (at2_587) (tk2_588) (fk2_589) gL612_0 gL612_1 gL612_2 gL612_4 hW590 hF598 ((e592)) ((e593)) ((e594)) (((hF591.1 9 rfl).trans (fx_9))) (((hF591.1 29 rfl).trans (fx_29))) (((hF591.1 19 rfl).trans (fx_19))) (((hF591.1 28 rfl).trans (fx_28))) (by omega) (by omega) (by omega) (by omega) (by omega) (by omega) (by omega)
              · have _q := h607
                exact absurd h607 (by omega)
            · have _q : True := trivial
              exfalso
              omega
          · have _q := h584
            exact absurd h584 (by omega)
  refine jx_ar (pc' := 1) (st' := [.int (i32 (0))]) rfl rfl rfl rfl ?_
  refine jx_ld (pc' := 2) (l' := jSto1 [(0, .ref 66)] 1 (.int (i32 (0)))) (st' := []) rfl rfl ?_
  obtain ⟨L615, eL615⟩ : ∃ q, q = jSto1 [(0, .ref 66)] 1 (.int (i32 (0))) := ⟨_, rfl⟩
  rw [← eL615]
  have gL615_0 : jGet L615 0 = some (.ref 66) := eL615 ▸ jg_ne (by decide) (rfl : jGet [(0, .ref 66)] 0 = some (.ref 66)) rfl
  have gL615_1 : jGet L615 1 = some (.int (i32 (0))) := eL615 ▸ jg_eq
  refine jx_ld (pc' := 3) (l' := L615) (st' := [.ref 66]) rfl (jl_aloadn gL615_0) ?_
  refine jx_ar (pc' := 5) (st' := [.int (i32 (91)), .ref 66]) rfl rfl rfl rfl ?_
  have b616 : (-2147483648 : Int) ≤ G 13 ∧ G 13 ≤ 2147483647 := hW.1 13
  refine jx_vr (pc' := 8) (as := [.int (i32 (91))]) (st := []) rfl rfl rfl rfl ⟨rfl, rfl, Nat.le_of_ble_eq_true rfl⟩ rfl rfl (c_is (dd := d) (hd := by omega) (hW := hW) (k := 91) (tk := tk0) (e_tk := show G 11 = tk0 from (e_tk0)) (tn := G 13) (e_tn := show G 13 = G 13 from rfl)  (h_k := ⟨(by decide), (by decide)⟩)  ) (fun o V' hq => ?_)
  obtain ⟨r617, rfl, rfl, b618, q619⟩ := hq
  refine .inr ⟨_, rfl, ?_⟩
  rcases q619 with ⟨rfl, a620, a621, a622⟩ | rfl
  · have _q : True := trivial
    refine jx_ld (pc' := 9) (l' := jSto1 L615 2 (.int (i32 (1)))) (st' := []) rfl rfl ?_
    obtain ⟨L623, eL623⟩ : ∃ q, q = jSto1 L615 2 (.int (i32 (1))) := ⟨_, rfl⟩
    rw [← eL623]
    have gL623_0 : jGet L623 0 = some (.ref 66) := eL623 ▸ jg_ne (by decide) gL615_0 rfl
    have gL623_1 : jGet L623 1 = some (.int (i32 (0))) := eL623 ▸ jg_ne (by decide) gL615_1 rfl
    have gL623_2 : jGet L623 2 = some (.int (i32 (1))) := eL623 ▸ jg_eq
    refine jx_ld (pc' := 10) (l' := L623) (st' := [.int (i32 (1))]) rfl (jl_iloadn gL623_2) ?_
    refine jx_if_eq (pc' := 13) (tg := 35) rfl rfl rfl (by decide) (by decide) (fun h624 => ?_) (fun h624 => ?_)
    · have _q := h624
      exact absurd h624 (by omega)
    · have _q := h624
      refine jx_ld (pc' := 14) (l' := L623) (st' := [.ref 66]) rfl (jl_aloadn gL623_0) ?_
      refine jx_vr (pc' := 17) (as := []) (st := []) rfl rfl rfl rfl ⟨rfl, rfl, Nat.le_of_ble_eq_true rfl⟩ rfl rfl (c_next (dd := d) (hd := by omega) (hW := hW)  (ln := ln) (e_ln := show G 9 = ln from (e_ln)) (le := le) (e_le := show A 4 (ln).toNat = le from (e_le)) (at0 := at0) (e_at0 := show G 10 = at0 from (e_at0))    (p_0 := by omega)) (fun o V' hq => ?_)
      obtain ⟨G625, A626, at2_627, tk2_628, rfl, rfl, hW629, hF630, e631, e632, p633, p634, p635, -⟩ := hq
      have hF637 := Fr_tr hF0 hF630 (Fr_sub (by decide)) (Fr_sub (by decide))
      have bat2_627 : (0 : Int) ≤ at2_627 ∧ at2_627 ≤ 3002 := e631 ▸ hW629.1 10
      have ztk2_628 := tz_b tk2_628
      have btk2_628 : (0 : Int) ≤ tk2_628 ∧ tk2_628 ≤ 5 := e632 ▸ hW629.1 11
      refine .inl ⟨rfl, ?_⟩
      refine jx_ld (pc' := 18) (l' := L623) (st' := [.ref 66]) rfl (jl_aloadn gL623_0) ?_
      refine jx_ar (pc' := 19) (st' := [.int (i32 (1)), .ref 66]) rfl rfl rfl rfl ?_
      refine jx_ar (pc' := 21) (st' := [.int (i32 (64)), .int (i32 (1)), .ref 66]) rfl rfl rfl rfl ?_
      refine jx_vr (pc' := 24) (as := [.int (i32 (1)), .int (i32 (64))]) (st := []) rfl rfl rfl rfl ⟨rfl, rfl, Nat.le_of_ble_eq_true rfl⟩ rfl rfl (c_needNumber (dd := d) (hd := by omega) (hW := hW629) (lo := 1) (hi := 64) (ln := ln) (e_ln := show G625 9 = ln from ((hF630.1 9 rfl).trans (e_ln))) (le := le) (e_le := show A626 4 (ln).toNat = le from (congrFun (hF630.2 4 rfl) _).trans (e_le)) (at0 := at2_627) (e_at0 := show G625 10 = at2_627 from (e631)) (fk := fk) (e_fk := show G625 16 = fk from ((hF630.1 16 rfl).trans (e_fk))) (tk0 := tk2_628) (e_tk0 := show G625 11 = tk2_628 from (e632))  (h_lo := ⟨(by decide), (by decide)⟩) (h_hi := ⟨(by decide), (by decide)⟩)  (p_0 := by omega)) (fun o V' hq => ?_)
      obtain ⟨G638, A639, r640, at2_641, tk2_642, fk2_643, rfl, rfl, hW644, hF645, b646, e647, e648, e649, p650, p651, q652⟩ := hq
      have hF653 := Fr_tr hF637 hF645 (Fr_sub (by decide)) (Fr_sub (by decide))
      have bat2_641 : (0 : Int) ≤ at2_641 ∧ at2_641 ≤ 3002 := e647 ▸ hW644.1 10
      have ztk2_642 := tz_b tk2_642
      have btk2_642 : (0 : Int) ≤ tk2_642 ∧ tk2_642 ≤ 5 := e648 ▸ hW644.1 11
      have zfk2_643 := tz_f fk2_643
      have bfk2_643 : (0 : Int) ≤ fk2_643 ∧ fk2_643 ≤ 6 := e649 ▸ hW644.1 16
      refine .inr ⟨_, rfl, ?_⟩
      rcases q652 with ⟨a654, a655, a656, a657⟩ | ⟨a658, a659, a660, a661, a662⟩
      · have _q : True := trivial
        refine jx_ld (pc' := 25) (l' := jSto1 L623 1 (.int (i32 (r640)))) (st' := []) rfl rfl ?_
        obtain ⟨L663, eL663⟩ : ∃ q, q = jSto1 L623 1 (.int (i32 (r640))) := ⟨_, rfl⟩
        rw [← eL663]
        have gL663_0 : jGet L663 0 = some (.ref 66) := eL663 ▸ jg_ne (by decide) gL623_0 rfl
        have gL663_2 : jGet L663 2 = some (.int (i32 (1))) := eL663 ▸ jg_ne (by decide) gL623_2 rfl
        have gL663_1 : jGet L663 1 = some (.int (i32 (r640))) := eL663 ▸ jg_eq
        refine jx_ld (pc' := 26) (l' := L663) (st' := [.ref 66]) rfl (jl_aloadn gL663_0) ?_
        refine jx_ld (pc' := 27) (l' := L663) (st' := [.ref 66, .ref 66]) rfl (jl_aloadn gL663_0) ?_
        refine jx_ar (pc' := 29) (st' := [.int (i32 (93)), .ref 66, .ref 66]) rfl rfl rfl rfl ?_
        have b664 : (-2147483648 : Int) ≤ G638 13 ∧ G638 13 ≤ 2147483647 := hW644.1 13
        refine jx_vr (pc' := 32) (as := [.int (i32 (93))]) (st := [.ref 66]) rfl rfl rfl rfl ⟨rfl, rfl, Nat.le_of_ble_eq_true rfl⟩ rfl rfl (c_is (dd := d) (hd := by omega) (hW := hW644) (k := 93) (tk := tk2_642) (e_tk := show G638 11 = tk2_642 from (e648)) (tn := G638 13) (e_tn := show G638 13 = G638 13 from rfl)  (h_k := ⟨(by decide), (by decide)⟩)  ) (fun o V' hq => ?_)
        obtain ⟨r665, rfl, rfl, b666, q667⟩ := hq
        refine .inr ⟨_, rfl, ?_⟩
        rcases q667 with ⟨rfl, a668, a669, a670⟩ | rfl
        · have _q : True := trivial
          refine jx_vr (pc' := 35) (as := [.int (i32 (1))]) (st := []) rfl rfl rfl rfl ⟨rfl, rfl, Nat.le_of_ble_eq_true rfl⟩ rfl rfl (c_need (dd := d) (hd := by omega) (hW := hW644) (g := 1) (ln := ln) (e_ln := show G638 9 = ln from ((hF645.1 9 rfl).trans ((hF630.1 9 rfl).trans (e_ln)))) (le := le) (e_le := show A639 4 (ln).toNat = le from (congrFun ((hF645.2 4 rfl).trans (hF630.2 4 rfl)) _).trans (e_le)) (at0 := at2_641) (e_at0 := show G638 10 = at2_641 from (e647)) (fk := fk2_643) (e_fk := show G638 16 = fk2_643 from (e649)) (tk0 := tk2_642) (e_tk0 := show G638 11 = tk2_642 from (e648))  (h_g := ⟨(by decide), (by decide)⟩)  (p_0 := by omega)) (fun o V' hq => ?_)
          obtain ⟨G671, A672, at2_673, tk2_674, fk2_675, rfl, rfl, hW676, hF677, e678, e679, e680, p681, p682, q683⟩ := hq
          have hF684 := Fr_tr hF653 hF677 (Fr_sub (by decide)) (Fr_sub (by decide))
          have bat2_673 : (0 : Int) ≤ at2_673 ∧ at2_673 ≤ 3002 := e678 ▸ hW676.1 10
          have ztk2_674 := tz_b tk2_674
          have btk2_674 : (0 : Int) ≤ tk2_674 ∧ tk2_674 ≤ 5 := e679 ▸ hW676.1 11
          have zfk2_675 := tz_f fk2_675
          have bfk2_675 : (0 : Int) ≤ fk2_675 ∧ fk2_675 ≤ 6 := e680 ▸ hW676.1 16
          refine .inl ⟨rfl, ?_⟩
          rcases q683 with ⟨a685, a686, a687, a688⟩ | ⟨a689, a690, a691, a692⟩
          · have _q : True := trivial
            have z693 := tz_f (tk2_674)
            have z694 := tz_f (fk2_675)
            exact at_35 L663 G671 A672 (r640) (1) (at2_673) (tk2_674) (fk2_675) gL663_0 gL663_1 gL663_2 hW676 hF684 ((e678)) ((e679)) ((e680)) (((hF677.1 9 rfl).trans ((hF645.1 9 rfl).trans ((hF630.1 9 rfl).trans (e_ln))))) (((hF677.1 29 rfl).trans ((hF645.1 29 rfl).trans ((hF630.1 29 rfl).trans (e_vi))))) (((hF677.1 19 rfl).trans ((hF645.1 19 rfl).trans ((hF630.1 19 rfl).trans (e_sy))))) (((hF677.1 28 rfl).trans ((hF645.1 28 rfl).trans ((hF630.1 28 rfl).trans (e_na))))) (by omega) (by omega) (by omega) (by omega) (by omega)
          · have _q : True := trivial
            exfalso
            omega
        · have _q : True := trivial
          refine jx_vr (pc' := 35) (as := [.int (i32 (0))]) (st := []) rfl rfl rfl rfl ⟨rfl, rfl, Nat.le_of_ble_eq_true rfl⟩ rfl rfl (c_need (dd := d) (hd := by omega) (hW := hW644) (g := 0) (ln := ln) (e_ln := show G638 9 = ln from ((hF645.1 9 rfl).trans ((hF630.1 9 rfl).trans (e_ln)))) (le := le) (e_le := show A639 4 (ln).toNat = le from (congrFun ((hF645.2 4 rfl).trans (hF630.2 4 rfl)) _).trans (e_le)) (at0 := at2_641) (e_at0 := show G638 10 = at2_641 from (e647)) (fk := fk2_643) (e_fk := show G638 16 = fk2_643 from (e649)) (tk0 := tk2_642) (e_tk0 := show G638 11 = tk2_642 from (e648))  (h_g := ⟨(by decide), (by decide)⟩)  (p_0 := by omega)) (fun o V' hq => ?_)
          obtain ⟨G695, A696, at2_697, tk2_698, fk2_699, rfl, rfl, hW700, hF701, e702, e703, e704, p705, p706, q707⟩ := hq
          have hF708 := Fr_tr hF653 hF701 (Fr_sub (by decide)) (Fr_sub (by decide))
          have bat2_697 : (0 : Int) ≤ at2_697 ∧ at2_697 ≤ 3002 := e702 ▸ hW700.1 10
          have ztk2_698 := tz_b tk2_698
          have btk2_698 : (0 : Int) ≤ tk2_698 ∧ tk2_698 ≤ 5 := e703 ▸ hW700.1 11
          have zfk2_699 := tz_f fk2_699
          have bfk2_699 : (0 : Int) ≤ fk2_699 ∧ fk2_699 ≤ 6 := e704 ▸ hW700.1 16
          refine .inl ⟨rfl, ?_⟩
          rcases q707 with ⟨a709, a710, a711, a712⟩ | ⟨a713, a714, a715, a716⟩
          · have _q : True := trivial
            have z717 := tz_f (tk2_698)
            have z718 := tz_f (fk2_699)
            exact at_35 L663 G695 A696 (r640) (1) (at2_697) (tk2_698) (fk2_699) gL663_0 gL663_1 gL663_2 hW700 hF708 ((e702)) ((e703)) ((e704)) (((hF701.1 9 rfl).trans ((hF645.1 9 rfl).trans ((hF630.1 9 rfl).trans (e_ln))))) (((hF701.1 29 rfl).trans ((hF645.1 29 rfl).trans ((hF630.1 29 rfl).trans (e_vi))))) (((hF701.1 19 rfl).trans ((hF645.1 19 rfl).trans ((hF630.1 19 rfl).trans (e_sy))))) (((hF701.1 28 rfl).trans ((hF645.1 28 rfl).trans ((hF630.1 28 rfl).trans (e_na))))) (by omega) (by omega) (by omega) (by omega) (by omega)
          · have _q : True := trivial
            exfalso
            omega
      · have _q : True := trivial
        refine jx_ld (pc' := 25) (l' := jSto1 L623 1 (.int (i32 (r640)))) (st' := []) rfl rfl ?_
        obtain ⟨L719, eL719⟩ : ∃ q, q = jSto1 L623 1 (.int (i32 (r640))) := ⟨_, rfl⟩
        rw [← eL719]
        have gL719_0 : jGet L719 0 = some (.ref 66) := eL719 ▸ jg_ne (by decide) gL623_0 rfl
        have gL719_2 : jGet L719 2 = some (.int (i32 (1))) := eL719 ▸ jg_ne (by decide) gL623_2 rfl
        have gL719_1 : jGet L719 1 = some (.int (i32 (r640))) := eL719 ▸ jg_eq
        refine jx_ld (pc' := 26) (l' := L719) (st' := [.ref 66]) rfl (jl_aloadn gL719_0) ?_
        refine jx_ld (pc' := 27) (l' := L719) (st' := [.ref 66, .ref 66]) rfl (jl_aloadn gL719_0) ?_
        refine jx_ar (pc' := 29) (st' := [.int (i32 (93)), .ref 66, .ref 66]) rfl rfl rfl rfl ?_
        have b720 : (-2147483648 : Int) ≤ G638 13 ∧ G638 13 ≤ 2147483647 := hW644.1 13
        refine jx_vr (pc' := 32) (as := [.int (i32 (93))]) (st := [.ref 66]) rfl rfl rfl rfl ⟨rfl, rfl, Nat.le_of_ble_eq_true rfl⟩ rfl rfl (c_is (dd := d) (hd := by omega) (hW := hW644) (k := 93) (tk := tk2_642) (e_tk := show G638 11 = tk2_642 from (e648)) (tn := G638 13) (e_tn := show G638 13 = G638 13 from rfl)  (h_k := ⟨(by decide), (by decide)⟩)  ) (fun o V' hq => ?_)
        obtain ⟨r721, rfl, rfl, b722, q723⟩ := hq
        refine .inr ⟨_, rfl, ?_⟩
        rcases q723 with ⟨rfl, a724, a725, a726⟩ | rfl
        · have _q : True := trivial
          refine jx_vr (pc' := 35) (as := [.int (i32 (1))]) (st := []) rfl rfl rfl rfl ⟨rfl, rfl, Nat.le_of_ble_eq_true rfl⟩ rfl rfl (c_need (dd := d) (hd := by omega) (hW := hW644) (g := 1) (ln := ln) (e_ln := show G638 9 = ln from ((hF645.1 9 rfl).trans ((hF630.1 9 rfl).trans (e_ln)))) (le := le) (e_le := show A639 4 (ln).toNat = le from (congrFun ((hF645.2 4 rfl).trans (hF630.2 4 rfl)) _).trans (e_le)) (at0 := at2_641) (e_at0 := show G638 10 = at2_641 from (e647)) (fk := fk2_643) (e_fk := show G638 16 = fk2_643 from (e649)) (tk0 := tk2_642) (e_tk0 := show G638 11 = tk2_642 from (e648))  (h_g := ⟨(by decide), (by decide)⟩)  (p_0 := by omega)) (fun o V' hq => ?_)
          obtain ⟨G727, A728, at2_729, tk2_730, fk2_731, rfl, rfl, hW732, hF733, e734, e735, e736, p737, p738, q739⟩ := hq
          have hF740 := Fr_tr hF653 hF733 (Fr_sub (by decide)) (Fr_sub (by decide))
          have bat2_729 : (0 : Int) ≤ at2_729 ∧ at2_729 ≤ 3002 := e734 ▸ hW732.1 10
          have ztk2_730 := tz_b tk2_730
          have btk2_730 : (0 : Int) ≤ tk2_730 ∧ tk2_730 ≤ 5 := e735 ▸ hW732.1 11
          have zfk2_731 := tz_f fk2_731
          have bfk2_731 : (0 : Int) ≤ fk2_731 ∧ fk2_731 ≤ 6 := e736 ▸ hW732.1 16
          refine .inl ⟨rfl, ?_⟩
          rcases q739 with ⟨a741, a742, a743, a744⟩ | ⟨a745, a746, a747, a748⟩
          · have _q : True := trivial
            have z749 := tz_f (tk2_730)
            have z750 := tz_f (fk2_731)
            exact at_35 L719 G727 A728 (r640) (1) (at2_729) (tk2_730) (fk2_731) gL719_0 gL719_1 gL719_2 hW732 hF740 ((e734)) ((e735)) ((e736)) (((hF733.1 9 rfl).trans ((hF645.1 9 rfl).trans ((hF630.1 9 rfl).trans (e_ln))))) (((hF733.1 29 rfl).trans ((hF645.1 29 rfl).trans ((hF630.1 29 rfl).trans (e_vi))))) (((hF733.1 19 rfl).trans ((hF645.1 19 rfl).trans ((hF630.1 19 rfl).trans (e_sy))))) (((hF733.1 28 rfl).trans ((hF645.1 28 rfl).trans ((hF630.1 28 rfl).trans (e_na))))) (by omega) (by omega) (by omega) (by omega) (by omega)
          · have _q : True := trivial
            have z751 := tz_f (tk2_730)
            have z752 := tz_f (fk2_731)
            exact at_35 L719 G727 A728 (r640) (1) (at2_729) (tk2_730) (fk2_731) gL719_0 gL719_1 gL719_2 hW732 hF740 ((e734)) ((e735)) ((e736)) (((hF733.1 9 rfl).trans ((hF645.1 9 rfl).trans ((hF630.1 9 rfl).trans (e_ln))))) (((hF733.1 29 rfl).trans ((hF645.1 29 rfl).trans ((hF630.1 29 rfl).trans (e_vi))))) (((hF733.1 19 rfl).trans ((hF645.1 19 rfl).trans ((hF630.1 19 rfl).trans (e_sy))))) (((hF733.1 28 rfl).trans ((hF645.1 28 rfl).trans ((hF630.1 28 rfl).trans (e_na))))) (by omega) (by omega) (by omega) (by omega) (by omega)
        · have _q : True := trivial
          refine jx_vr (pc' := 35) (as := [.int (i32 (0))]) (st := []) rfl rfl rfl rfl ⟨rfl, rfl, Nat.le_of_ble_eq_true rfl⟩ rfl rfl (c_need (dd := d) (hd := by omega) (hW := hW644) (g := 0) (ln := ln) (e_ln := show G638 9 = ln from ((hF645.1 9 rfl).trans ((hF630.1 9 rfl).trans (e_ln)))) (le := le) (e_le := show A639 4 (ln).toNat = le from (congrFun ((hF645.2 4 rfl).trans (hF630.2 4 rfl)) _).trans (e_le)) (at0 := at2_641) (e_at0 := show G638 10 = at2_641 from (e647)) (fk := fk2_643) (e_fk := show G638 16 = fk2_643 from (e649)) (tk0 := tk2_642) (e_tk0 := show G638 11 = tk2_642 from (e648))  (h_g := ⟨(by decide), (by decide)⟩)  (p_0 := by omega)) (fun o V' hq => ?_)
          obtain ⟨G753, A754, at2_755, tk2_756, fk2_757, rfl, rfl, hW758, hF759, e760, e761, e762, p763, p764, q765⟩ := hq
          have hF766 := Fr_tr hF653 hF759 (Fr_sub (by decide)) (Fr_sub (by decide))
          have bat2_755 : (0 : Int) ≤ at2_755 ∧ at2_755 ≤ 3002 := e760 ▸ hW758.1 10
          have ztk2_756 := tz_b tk2_756
          have btk2_756 : (0 : Int) ≤ tk2_756 ∧ tk2_756 ≤ 5 := e761 ▸ hW758.1 11
          have zfk2_757 := tz_f fk2_757
          have bfk2_757 : (0 : Int) ≤ fk2_757 ∧ fk2_757 ≤ 6 := e762 ▸ hW758.1 16
          refine .inl ⟨rfl, ?_⟩
          rcases q765 with ⟨a767, a768, a769, a770⟩ | ⟨a771, a772, a773, a774⟩
          · have _q : True := trivial
            have z775 := tz_f (tk2_756)
            have z776 := tz_f (fk2_757)
            exact at_35 L719 G753 A754 (r640) (1) (at2_755) (tk2_756) (fk2_757) gL719_0 gL719_1 gL719_2 hW758 hF766 ((e760)) ((e761)) ((e762)) (((hF759.1 9 rfl).trans ((hF645.1 9 rfl).trans ((hF630.1 9 rfl).trans (e_ln))))) (((hF759.1 29 rfl).trans ((hF645.1 29 rfl).trans ((hF630.1 29 rfl).trans (e_vi))))) (((hF759.1 19 rfl).trans ((hF645.1 19 rfl).trans ((hF630.1 19 rfl).trans (e_sy))))) (((hF759.1 28 rfl).trans ((hF645.1 28 rfl).trans ((hF630.1 28 rfl).trans (e_na))))) (by omega) (by omega) (by omega) (by omega) (by omega)
          · have _q : True := trivial
            exfalso
            omega
  · have _q : True := trivial
    refine jx_ld (pc' := 9) (l' := jSto1 L615 2 (.int (i32 (0)))) (st' := []) rfl rfl ?_
    obtain ⟨L777, eL777⟩ : ∃ q, q = jSto1 L615 2 (.int (i32 (0))) := ⟨_, rfl⟩
    rw [← eL777]
    have gL777_0 : jGet L777 0 = some (.ref 66) := eL777 ▸ jg_ne (by decide) gL615_0 rfl
    have gL777_1 : jGet L777 1 = some (.int (i32 (0))) := eL777 ▸ jg_ne (by decide) gL615_1 rfl
    have gL777_2 : jGet L777 2 = some (.int (i32 (0))) := eL777 ▸ jg_eq
    refine jx_ld (pc' := 10) (l' := L777) (st' := [.int (i32 (0))]) rfl (jl_iloadn gL777_2) ?_
    refine jx_if_eq (pc' := 13) (tg := 35) rfl rfl rfl (by decide) (by decide) (fun h778 => ?_) (fun h778 => ?_)
    · have _q := h778
      have z779 := tz_f (tk0)
      have z780 := tz_f (fk)
      exact at_35 L777 G A (0) (0) (at0) (tk0) (fk) gL777_0 gL777_1 gL777_2 hW hF0 ((e_at0)) ((e_tk0)) ((e_fk)) ((e_ln)) ((e_vi)) ((e_sy)) ((e_na)) (by omega) (by omega) (by omega) (by omega) (by omega)
    · have _q := h778
      exact absurd h778 (by omega)
