set_option maxRecDepth 20000 in
set_option maxHeartbeats 4000000 in
theorem c_readArgument_w {X : jX} {dd : Nat} {Vs : Nat → Prop} {sb : Int} {c0 c1 : jC} {G : Nat → Int} {A : Nat → Nat → Int} {T : jH} {pa : Int} {ln le at0 fk op0 nd tk0 kp zp ec sy : Int} (hd : 70 ≤ dd) (hW : Wk G A) (e_ln : G 9 = ln) (e_le : A 4 (ln).toNat = le) (e_at0 : G 10 = at0) (e_fk : G 16 = fk) (e_op0 : G 15 = op0) (e_nd : G 31 = nd) (e_tk0 : G 11 = tk0) (e_kp : A 7 (pa).toNat = kp) (e_zp : A 8 (pa).toNat = zp) (e_ec : ecn A (G 31) = ec) (e_sy : G 19 = sy) (i_SV : SV Vs sb G A) (h_pa : (-2147483648 : Int) ≤ pa ∧ pa ≤ 2147483647) (p_0 : 0 ≤ op0) (p_1 : op0 ≤ 9) (p_2 : op0 ≤ 8 ∨ 1 ≤ fk) (p_3 : nd ≤ 2 * at0 - tz tk0 + 47) (p_4 : at0 ≤ le) (p_5 : fk = 0) (p_6 : op0 ≤ 8) (p_7 : 0 ≤ pa ∧ pa ≤ 208) (p_8 : 5 ≤ kp ∧ kp ≤ 8) (p_9 : pa < sb) : wk X dd 306 [.ref 66, .int (i32 pa)] (rV c0 c1 G A T) (fun o V_q => ∃ (G_q : Nat → Int) (A_q : Nat → Nat → Int) (r : Int) (at2 : Int) (fk2 : Int) (op2 : Int) (nd2 : Int) (tk2 : Int) (ec2 : Int), V_q = rV c0 c1 G_q A_q T ∧ o = .inl (some (.int (i32 r))) ∧ Wk G_q A_q ∧ Fr [10, 11, 12, 13, 14, 15, 16, 17, 18, 31] [15, 16, 17, 18, 19, 20, 21, 22, 24, 28] G A G_q A_q ∧ Pf nd A A_q ∧ ((-2147483648 : Int) ≤ r ∧ r ≤ 2147483647) ∧ G_q 10 = at2 ∧ G_q 16 = fk2 ∧ G_q 15 = op2 ∧ G_q 31 = nd2 ∧ G_q 11 = tk2 ∧ ecn A_q (G_q 31) = ec2 ∧ (at0 ≤ at2) ∧ (at2 ≤ le) ∧ (nd ≤ nd2) ∧ (op2 = op0) ∧ (0 ≤ r) ∧ (r ≤ nd2) ∧ (((fk = 0) ∧ (1 ≤ fk2) ∧ (nd2 - nd ≤ (2 * at2 - tz tk2) - (2 * at0 - tz tk0) + 3)) ∨ ((fk = 0) ∧ (fk2 = 0) ∧ (nd2 - nd ≤ (2 * at2 - tz tk2) - (2 * at0 - tz tk0) + 1) ∧ (nd ≤ r) ∧ (r < nd2) ∧ (wA A_q Vs sb (pa) (r) (nd) (nd2)) ∧ (NX A_q (r)) ∧ (nd2 - nd + 5 * (ec2 - ec) ≤ (2 * at2 - tz tk2) - (2 * at0 - tz tk0) + 1 - tz tk2) ∧ (NdM A_q (nd) (nd2) (sy))))) := by
  obtain ⟨d, rfl⟩ : ∃ d, dd = d + 1 := ⟨dd - 1, by omega⟩
  refine wk_of (e := jm306) rfl (Nat.le_of_ble_eq_true rfl) ?_
  show wj X d jm306 (0, [(0, .ref 66), (1, .int (i32 (pa)))], [], rV c0 c1 G A T) _
  have hF0 : Fr [10, 11, 12, 13, 14, 15, 16, 17, 18, 31] [15, 16, 17, 18, 19, 20, 21, 22, 24, 28] G A G A := Fr_rf
  have hP0 : Pf nd A A := Pf_rf
  have b_ln : (0 : Int) ≤ ln ∧ ln ≤ 3000 := e_ln ▸ hW.1 9
  have b_le : (0 : Int) ≤ le ∧ le ≤ 3000 := e_le ▸ hW.2 4 _
  have b_at0 : (0 : Int) ≤ at0 ∧ at0 ≤ 3002 := e_at0 ▸ hW.1 10
  have b_fk : (0 : Int) ≤ fk ∧ fk ≤ 6 := e_fk ▸ hW.1 16
  have b_op0 : (-2147483648 : Int) ≤ op0 ∧ op0 ≤ 2147483647 := e_op0 ▸ hW.1 15
  have b_nd : (0 : Int) ≤ nd ∧ nd ≤ 6999 := e_nd ▸ hW.1 31
  have z_tk0 := tz_f tk0
  have b_tk0 : (0 : Int) ≤ tk0 ∧ tk0 ≤ 5 := e_tk0 ▸ hW.1 11
  have b_kp : (0 : Int) ≤ kp ∧ kp ≤ 14 := e_kp ▸ hW.2 7 _
  have b_zp : (-2147483648 : Int) ≤ zp ∧ zp ≤ 2147483647 := e_zp ▸ hW.2 8 _
  have b_sy : (0 : Int) ≤ sy ∧ sy ≤ 202 := e_sy ▸ hW.1 19
  refine jx_ld (pc_q := 1) (l_q := [(0, .ref 66), (1, .int (i32 (pa)))]) (st_q := [.ref 66]) rfl (jl_aloadn rfl) ?_
  refine jr_get (pc_q := 4) (i := 21) (v := .ref 74) rfl rfl (by decide) rfl rfl ?_
  refine jx_ld (pc_q := 5) (l_q := [(0, .ref 66), (1, .int (i32 (pa)))]) (st_q := [.int (i32 (pa)), .ref 74]) rfl (jl_iloadn rfl) ?_
  refine jr_ldv (pc_q := 6) (i := 7) (m := 260) (z := pa) (y := kp) rfl (by decide) rfl (by decide) (by omega) (by omega) rfl (show A 7 (pa).toNat = kp from (e_kp)) ?_
  refine jx_ld (pc_q := 7) (l_q := jSto1 [(0, .ref 66), (1, .int (i32 (pa)))] 2 (.int (i32 (kp)))) (st_q := []) rfl rfl ?_
  obtain ⟨L1, eL1⟩ : ∃ q, q = jSto1 [(0, .ref 66), (1, .int (i32 (pa)))] 2 (.int (i32 (kp))) := ⟨_, rfl⟩
  rw [← eL1]
  have gL1_0 : jGet L1 0 = some (.ref 66) := eL1 ▸ jg_ne (by decide) (rfl : jGet [(0, .ref 66), (1, .int (i32 (pa)))] 0 = some (.ref 66)) rfl
  have gL1_1 : jGet L1 1 = some (.int (i32 (pa))) := eL1 ▸ jg_ne (by decide) (rfl : jGet [(0, .ref 66), (1, .int (i32 (pa)))] 1 = some (.int (i32 (pa)))) rfl
  have gL1_2 : jGet L1 2 = some (.int (i32 (kp))) := eL1 ▸ jg_eq
  refine jx_ar (pc_q := 8) (st_q := [.int (i32 (0))]) rfl rfl rfl rfl ?_
  refine jx_ld (pc_q := 9) (l_q := jSto1 L1 3 (.int (i32 (0)))) (st_q := []) rfl rfl ?_
  obtain ⟨L2, eL2⟩ : ∃ q, q = jSto1 L1 3 (.int (i32 (0))) := ⟨_, rfl⟩
  rw [← eL2]
  have gL2_0 : jGet L2 0 = some (.ref 66) := eL2 ▸ jg_ne (by decide) gL1_0 rfl
  have gL2_1 : jGet L2 1 = some (.int (i32 (pa))) := eL2 ▸ jg_ne (by decide) gL1_1 rfl
  have gL2_2 : jGet L2 2 = some (.int (i32 (kp))) := eL2 ▸ jg_ne (by decide) gL1_2 rfl
  have gL2_3 : jGet L2 3 = some (.int (i32 (0))) := eL2 ▸ jg_eq
  refine jx_ld (pc_q := 10) (l_q := L2) (st_q := [.ref 66]) rfl (jl_aloadn gL2_0) ?_
  refine jx_ar (pc_q := 12) (st_q := [.int (i32 (41)), .ref 66]) rfl rfl rfl rfl ?_
  have b3 : (-2147483648 : Int) ≤ G 13 ∧ G 13 ≤ 2147483647 := hW.1 13
  refine jx_vr (pc_q := 15) (as := [.int (i32 (41))]) (st := []) rfl rfl rfl rfl ⟨rfl, rfl, Nat.le_of_ble_eq_true rfl⟩ rfl rfl (c_is (dd := d) (hd := by omega) (hW := hW) (k := 41) (tk := tk0) (e_tk := show G 11 = tk0 from (e_tk0)) (tn := G 13) (e_tn := show G 13 = G 13 from rfl)  (h_k := ⟨(by decide), (by decide)⟩)  ) (fun o V_q hq => ?_)
  obtain ⟨r4, rfl, rfl, b5, q6⟩ := hq
  refine .inr ⟨_, rfl, ?_⟩
  rcases q6 with ⟨rfl, a7, a8, a9⟩ | rfl
  · have _q : True := trivial
    refine jx_if_eq (pc_q := 18) (tg := 30) rfl rfl rfl (by decide) (by decide) (fun h10 => ?_) (fun h10 => ?_)
    · have _q := h10
      exact absurd h10 (by omega)
    · have _q := h10
      refine jx_ld (pc_q := 19) (l_q := L2) (st_q := [.ref 66]) rfl (jl_aloadn gL2_0) ?_
      refine jx_ar (pc_q := 20) (st_q := [.int (i32 (4)), .ref 66]) rfl rfl rfl rfl ?_
      refine jx_ld (pc_q := 21) (l_q := L2) (st_q := [.ref 66, .int (i32 (4)), .ref 66]) rfl (jl_aloadn gL2_0) ?_
      have b11 : (-3000 : Int) ≤ G 12 ∧ G 12 ≤ 3002 := hW.1 12
      refine jr_get (pc_q := 24) (i := 12) (v := .int (i32 (G 12))) rfl rfl (by decide) rfl rfl ?_
      refine jx_vr (pc_q := 27) (as := [.int (i32 (4)), .int (i32 (G 12))]) (st := []) rfl rfl rfl rfl ⟨rfl, rfl, Nat.le_of_ble_eq_true rfl⟩ rfl rfl (c_fail (dd := d) (hd := by omega) (hW := hW) (kind := 4) (place := G 12) (fk := fk) (e_fk := show G 16 = fk from (e_fk))  (h_kind := ⟨(by decide), (by decide)⟩) (h_place := ⟨(Int.le_trans (by decide : (-2147483648 : Int) ≤ -3000) b11.1), (Int.le_trans b11.2 (by decide : (3002 : Int) ≤ 2147483647))⟩)  (p_0 := by omega) (p_1 := by omega)) (fun o V_q hq => ?_)
      obtain ⟨G12, A13, fk2_14, rfl, rfl, hW15, hF16, e17, p18, -⟩ := hq
      have hF20 := Fr_tr hF0 hF16 (Fr_sub (by decide)) (Fr_sub (by decide))
      have hP21 := Pf_f hP0 hF16 (by decide)
      have ec22 : ecn A13 (G12 31) = ec := (ecn_f (hF16.2 15 rfl) (hF16.1 31 rfl)).trans e_ec
      have bfk2_14 : (0 : Int) ≤ fk2_14 ∧ fk2_14 ≤ 6 := e17 ▸ hW15.1 16
      refine .inl ⟨rfl, ?_⟩
      refine jx_go (tg := 172) rfl rfl ?_
      refine jx_ld (pc_q := 173) (l_q := L2) (st_q := [.ref 66]) rfl (jl_aloadn gL2_0) ?_
      refine jx_ar (pc_q := 175) (st_q := [.int (i32 (7)), .ref 66]) rfl rfl rfl rfl ?_
      refine jx_ld (pc_q := 176) (l_q := L2) (st_q := [.int (i32 (0)), .int (i32 (7)), .ref 66]) rfl (jl_iloadn gL2_3) ?_
      refine jx_ld (pc_q := 177) (l_q := L2) (st_q := [.int (i32 (pa)), .int (i32 (0)), .int (i32 (7)), .ref 66]) rfl (jl_iloadn gL2_1) ?_
      refine jx_ar (pc_q := 178) (st_q := [.int (i32 (0)), .int (i32 (pa)), .int (i32 (0)), .int (i32 (7)), .ref 66]) rfl rfl rfl rfl ?_
      refine jx_ar (pc_q := 179) (st_q := [.int (i32 (0)), .int (i32 (0)), .int (i32 (pa)), .int (i32 (0)), .int (i32 (7)), .ref 66]) rfl rfl rfl rfl ?_
      refine jx_vr (pc_q := 182) (as := [.int (i32 (7)), .int (i32 (0)), .int (i32 (pa)), .int (i32 (0)), .int (i32 (0))]) (st := []) rfl rfl rfl rfl ⟨rfl, rfl, Nat.le_of_ble_eq_true rfl⟩ rfl rfl (c_node_o (dd := d) (hd := by omega) (hW := hW15) (kind := 7) (a := 0) (b := pa) (c := 0) (e := 0) (nd := nd) (e_nd := show G12 31 = nd from ((hF16.1 31 rfl).trans (e_nd))) (ec := ec) (e_ec := show ecn A13 (G12 31) = ec from ec22) (sy := sy) (e_sy := show G12 19 = sy from ((hF16.1 19 rfl).trans (e_sy)))  (h_kind := ⟨(by decide), (by decide)⟩) (h_a := ⟨(by decide), (by decide)⟩) (h_b := ⟨(Int.le_trans (by decide : (-2147483648 : Int) ≤ -2147483648) h_pa.1), (Int.le_trans h_pa.2 (by decide : (2147483647 : Int) ≤ 2147483647))⟩) (h_c := ⟨(by decide), (by decide)⟩) (h_e := ⟨(by decide), (by decide)⟩)  (p_0 := by omega) (p_1 := by omega) (p_2 := by omega)) (fun o V_q hq => ?_)
      obtain ⟨G23, A24, nd2_25, ec2_26, rfl, rfl, hW27, hF28, hQ29, e30, e31, p32, p33, p34, p35, -⟩ := hq
      have hF37 := Fr_tr hF20 hF28 (Fr_sub (by decide)) (Fr_sub (by decide))
      have hP38 := Pf_tr hP21 hQ29 (by omega)
      have bnd2_25 : (0 : Int) ≤ nd2_25 ∧ nd2_25 ≤ 6999 := e30 ▸ hW27.1 31
      refine .inr ⟨_, rfl, ?_⟩
      refine jx_rt (v := some (.int (i32 (nd)))) rfl rfl rfl rfl rfl rfl ?_
      have z39 := tz_f (tk0)
      exact ⟨_, _, _, at0, fk2_14, op0, nd2_25, tk0, ec2_26, rfl, rfl, hW27, hF37, hP38, by omega, ((hF28.1 10 rfl).trans ((hF16.1 10 rfl).trans (e_at0))), ((hF28.1 16 rfl).trans (e17)), ((hF28.1 15 rfl).trans ((hF16.1 15 rfl).trans (e_op0))), (e30), ((hF28.1 11 rfl).trans ((hF16.1 11 rfl).trans (e_tk0))), e31, by omega, by omega, by omega, by omega, by omega, by omega, by first | exact Or.inl (⟨by omega, by omega, by omega⟩)⟩
  · have _q : True := trivial
    refine jx_if_eq (pc_q := 18) (tg := 30) rfl rfl rfl (by decide) (by decide) (fun h40 => ?_) (fun h40 => ?_)
    · have _q := h40
      refine jx_ld (pc_q := 31) (l_q := L2) (st_q := [.int (i32 (kp))]) rfl (jl_iloadn gL2_2) ?_
      refine jx_ar (pc_q := 32) (st_q := [.int (i32 (5)), .int (i32 (kp))]) rfl rfl rfl rfl ?_
      refine jx_icmp_ne (pc_q := 35) (tg := 43) rfl rfl rfl (Int.le_trans (by decide : (-2147483648 : Int) ≤ 0) b_kp.1) (Int.le_trans b_kp.2 (by decide : (14 : Int) ≤ 2147483647)) (by decide) (by decide) (fun h41 => ?_) (fun h41 => ?_)
      · have _q := h41
        refine jx_ld (pc_q := 44) (l_q := L2) (st_q := [.ref 66]) rfl (jl_aloadn gL2_0) ?_
        have z42 := tz_f (tk0)
        refine jr_get (pc_q := 47) (i := 11) (v := .int (i32 (tk0))) rfl rfl (by decide) (rFv_eq (by decide) (show G 11 = tk0 from (e_tk0))) rfl ?_
        refine jx_ar (pc_q := 48) (st_q := [.int (i32 (1)), .int (i32 (tk0))]) rfl rfl rfl rfl ?_
        refine jx_icmp_eq (pc_q := 51) (tg := 63) rfl rfl rfl (Int.le_trans (by decide : (-2147483648 : Int) ≤ 0) b_tk0.1) (Int.le_trans b_tk0.2 (by decide : (5 : Int) ≤ 2147483647)) (by decide) (by decide) (fun h43 => ?_) (fun h43 => ?_)
        · have _q := h43
          refine jx_ld (pc_q := 64) (l_q := L2) (st_q := [.ref 66]) rfl (jl_aloadn gL2_0) ?_
          have b44 : (-3000 : Int) ≤ G 12 ∧ G 12 ≤ 3002 := hW.1 12
          refine jr_get (pc_q := 67) (i := 12) (v := .int (i32 (G 12))) rfl rfl (by decide) rfl rfl ?_
          refine jx_ld (pc_q := 69) (l_q := jSto1 L2 4 (.int (i32 (G 12)))) (st_q := []) rfl rfl ?_
          obtain ⟨L45, eL45⟩ : ∃ q, q = jSto1 L2 4 (.int (i32 (G 12))) := ⟨_, rfl⟩
          rw [← eL45]
          have gL45_0 : jGet L45 0 = some (.ref 66) := eL45 ▸ jg_ne (by decide) gL2_0 rfl
          have gL45_1 : jGet L45 1 = some (.int (i32 (pa))) := eL45 ▸ jg_ne (by decide) gL2_1 rfl
          have gL45_2 : jGet L45 2 = some (.int (i32 (kp))) := eL45 ▸ jg_ne (by decide) gL2_2 rfl
          have gL45_3 : jGet L45 3 = some (.int (i32 (0))) := eL45 ▸ jg_ne (by decide) gL2_3 rfl
          have gL45_4 : jGet L45 4 = some (.int (i32 (G 12))) := eL45 ▸ jg_eq
          refine jx_ld (pc_q := 70) (l_q := L45) (st_q := [.ref 66]) rfl (jl_aloadn gL45_0) ?_
          refine jx_vr (pc_q := 73) (as := []) (st := []) rfl rfl rfl rfl ⟨rfl, rfl, Nat.le_of_ble_eq_true rfl⟩ rfl rfl (c_lookUp (dd := d) (hd := by omega) (hW := hW)  (fk := fk) (e_fk := show G 16 = fk from (e_fk)) (i_SV := (SV_ext (rfl) (rfl) i_SV))   ) (fun o V_q hq => ?_)
          obtain ⟨G46, A47, r48, fk2_49, rfl, rfl, hW50, hF51, b52, e53, q54⟩ := hq
          have hF55 := Fr_tr hF0 hF51 (Fr_sub (by decide)) (Fr_sub (by decide))
          have hP56 := Pf_f hP0 hF51 (by decide)
          have ec57 : ecn A47 (G46 31) = ec := (ecn_f (hF51.2 15 rfl) (hF51.1 31 rfl)).trans e_ec
          have bfk2_49 : (0 : Int) ≤ fk2_49 ∧ fk2_49 ≤ 6 := e53 ▸ hW50.1 16
          refine .inr ⟨_, rfl, ?_⟩
          rcases q54 with ⟨a58, a59⟩ | ⟨a60, a61, a62, a63⟩
          · have _q : True := trivial
            refine jx_ld (pc_q := 75) (l_q := jSto1 L45 5 (.int (i32 (r48)))) (st_q := []) rfl rfl ?_
            obtain ⟨L64, eL64⟩ : ∃ q, q = jSto1 L45 5 (.int (i32 (r48))) := ⟨_, rfl⟩
            rw [← eL64]
            have gL64_0 : jGet L64 0 = some (.ref 66) := eL64 ▸ jg_ne (by decide) gL45_0 rfl
            have gL64_1 : jGet L64 1 = some (.int (i32 (pa))) := eL64 ▸ jg_ne (by decide) gL45_1 rfl
            have gL64_2 : jGet L64 2 = some (.int (i32 (kp))) := eL64 ▸ jg_ne (by decide) gL45_2 rfl
            have gL64_3 : jGet L64 3 = some (.int (i32 (0))) := eL64 ▸ jg_ne (by decide) gL45_3 rfl
            have gL64_4 : jGet L64 4 = some (.int (i32 (G 12))) := eL64 ▸ jg_ne (by decide) gL45_4 rfl
            have gL64_5 : jGet L64 5 = some (.int (i32 (r48))) := eL64 ▸ jg_eq
            refine jx_ld (pc_q := 76) (l_q := L64) (st_q := [.ref 66]) rfl (jl_aloadn gL64_0) ?_
            refine jx_vr (pc_q := 79) (as := []) (st := []) rfl rfl rfl rfl ⟨rfl, rfl, Nat.le_of_ble_eq_true rfl⟩ rfl rfl (c_bad (dd := d) (hd := by omega) (hW := hW50)  (fk := fk2_49) (e_fk := show G46 16 = fk2_49 from (e53))    ) (fun o V_q hq => ?_)
            obtain ⟨r65, rfl, rfl, b66, q67⟩ := hq
            refine .inr ⟨_, rfl, ?_⟩
            rcases q67 with ⟨rfl, a68⟩ | ⟨rfl, a69⟩
            · have _q : True := trivial
              refine jx_if_eq (pc_q := 82) (tg := 84) rfl rfl rfl (by decide) (by decide) (fun h70 => ?_) (fun h70 => ?_)
              · have _q := h70
                exact absurd h70 (by omega)
              · have _q := h70
                refine jx_ar (pc_q := 83) (st_q := [.int (i32 (0))]) rfl rfl rfl rfl ?_
                refine jx_rt (v := some (.int (i32 (0)))) rfl rfl rfl rfl rfl rfl ?_
                have z71 := tz_f (tk0)
                exact ⟨_, _, _, at0, fk2_49, op0, nd, tk0, ec, rfl, rfl, hW50, hF55, hP56, by omega, ((hF51.1 10 rfl).trans (e_at0)), (e53), ((hF51.1 15 rfl).trans (e_op0)), ((hF51.1 31 rfl).trans (e_nd)), ((hF51.1 11 rfl).trans (e_tk0)), ec57, by omega, by omega, by omega, by omega, by omega, by omega, by first | exact Or.inl (⟨by omega, by omega, by omega⟩)⟩
            · have _q : True := trivial
              exfalso
              omega
          · have _q : True := trivial
            refine jx_ld (pc_q := 75) (l_q := jSto1 L45 5 (.int (i32 (r48)))) (st_q := []) rfl rfl ?_
            obtain ⟨L72, eL72⟩ : ∃ q, q = jSto1 L45 5 (.int (i32 (r48))) := ⟨_, rfl⟩
            rw [← eL72]
            have gL72_0 : jGet L72 0 = some (.ref 66) := eL72 ▸ jg_ne (by decide) gL45_0 rfl
            have gL72_1 : jGet L72 1 = some (.int (i32 (pa))) := eL72 ▸ jg_ne (by decide) gL45_1 rfl
            have gL72_2 : jGet L72 2 = some (.int (i32 (kp))) := eL72 ▸ jg_ne (by decide) gL45_2 rfl
            have gL72_3 : jGet L72 3 = some (.int (i32 (0))) := eL72 ▸ jg_ne (by decide) gL45_3 rfl
            have gL72_4 : jGet L72 4 = some (.int (i32 (G 12))) := eL72 ▸ jg_ne (by decide) gL45_4 rfl
            have gL72_5 : jGet L72 5 = some (.int (i32 (r48))) := eL72 ▸ jg_eq
            refine jx_ld (pc_q := 76) (l_q := L72) (st_q := [.ref 66]) rfl (jl_aloadn gL72_0) ?_
            refine jx_vr (pc_q := 79) (as := []) (st := []) rfl rfl rfl rfl ⟨rfl, rfl, Nat.le_of_ble_eq_true rfl⟩ rfl rfl (c_bad (dd := d) (hd := by omega) (hW := hW50)  (fk := fk2_49) (e_fk := show G46 16 = fk2_49 from (e53))    ) (fun o V_q hq => ?_)
            obtain ⟨r73, rfl, rfl, b74, q75⟩ := hq
            refine .inr ⟨_, rfl, ?_⟩
            rcases q75 with ⟨rfl, a76⟩ | ⟨rfl, a77⟩
            · have _q : True := trivial
              exfalso
              omega
            · have _q : True := trivial
              refine jx_if_eq (pc_q := 82) (tg := 84) rfl rfl rfl (by decide) (by decide) (fun h78 => ?_) (fun h78 => ?_)
              · have _q := h78
                refine jx_ld (pc_q := 85) (l_q := L72) (st_q := [.int (i32 (kp))]) rfl (jl_iloadn gL72_2) ?_
                refine jx_ar (pc_q := 87) (st_q := [.int (i32 (7)), .int (i32 (kp))]) rfl rfl rfl rfl ?_
                refine jx_icmp_ne (pc_q := 90) (tg := 128) rfl rfl rfl (Int.le_trans (by decide : (-2147483648 : Int) ≤ 0) b_kp.1) (Int.le_trans b_kp.2 (by decide : (14 : Int) ≤ 2147483647)) (by decide) (by decide) (fun h79 => ?_) (fun h79 => ?_)
                · have _q := h79
                  refine jx_ld (pc_q := 129) (l_q := L72) (st_q := [.ref 66]) rfl (jl_aloadn gL72_0) ?_
                  refine jx_vr (pc_q := 132) (as := []) (st := []) rfl rfl rfl rfl ⟨rfl, rfl, Nat.le_of_ble_eq_true rfl⟩ rfl rfl (c_next (dd := d) (hd := by omega) (hW := hW50)  (ln := ln) (e_ln := show G46 9 = ln from ((hF51.1 9 rfl).trans (e_ln))) (le := le) (e_le := show A47 4 (ln).toNat = le from (congrFun (hF51.2 4 rfl) _).trans (e_le)) (at0 := at0) (e_at0 := show G46 10 = at0 from ((hF51.1 10 rfl).trans (e_at0)))    (p_0 := by omega)) (fun o V_q hq => ?_)
                  obtain ⟨G80, A81, at2_82, tk2_83, rfl, rfl, hW84, hF85, e86, e87, p88, p89, p90, -⟩ := hq
                  have hF92 := Fr_tr hF55 hF85 (Fr_sub (by decide)) (Fr_sub (by decide))
                  have hP93 := Pf_f hP56 hF85 (by decide)
                  have ec94 : ecn A81 (G80 31) = ec := (ecn_f (hF85.2 15 rfl) (hF85.1 31 rfl)).trans ec57
                  have bat2_82 : (0 : Int) ≤ at2_82 ∧ at2_82 ≤ 3002 := e86 ▸ hW84.1 10
                  have ztk2_83 := tz_b tk2_83
                  have btk2_83 : (0 : Int) ≤ tk2_83 ∧ tk2_83 ≤ 5 := e87 ▸ hW84.1 11
                  refine .inl ⟨rfl, ?_⟩
                  have pz95 : at0 + tz tk2_83 ≤ at2_82 := by omega
                  refine jx_ld (pc_q := 133) (l_q := L72) (st_q := [.int (i32 (kp))]) rfl (jl_iloadn gL72_2) ?_
                  refine jx_ar (pc_q := 135) (st_q := [.int (i32 (7)), .int (i32 (kp))]) rfl rfl rfl rfl ?_
                  refine jx_icmp_ne (pc_q := 138) (tg := 152) rfl rfl rfl (Int.le_trans (by decide : (-2147483648 : Int) ≤ 0) b_kp.1) (Int.le_trans b_kp.2 (by decide : (14 : Int) ≤ 2147483647)) (by decide) (by decide) (fun h96 => ?_) (fun h96 => ?_)
                  · have _q := h96
                    refine jx_ld (pc_q := 153) (l_q := L72) (st_q := [.ref 66]) rfl (jl_aloadn gL72_0) ?_
                    refine jx_ld (pc_q := 155) (l_q := L72) (st_q := [.int (i32 (r48)), .ref 66]) rfl (jl_iload gL72_5) ?_
                    refine jx_ld (pc_q := 157) (l_q := L72) (st_q := [.int (i32 (G 12)), .int (i32 (r48)), .ref 66]) rfl (jl_iload gL72_4) ?_
                    refine jx_ld (pc_q := 158) (l_q := L72) (st_q := [.int (i32 (kp)), .int (i32 (G 12)), .int (i32 (r48)), .ref 66]) rfl (jl_iloadn gL72_2) ?_
                    refine jx_ar (pc_q := 160) (st_q := [.int (i32 (8)), .int (i32 (kp)), .int (i32 (G 12)), .int (i32 (r48)), .ref 66]) rfl rfl rfl rfl ?_
                    refine jx_icmp_ne (pc_q := 163) (tg := 167) rfl rfl rfl (Int.le_trans (by decide : (-2147483648 : Int) ≤ 0) b_kp.1) (Int.le_trans b_kp.2 (by decide : (14 : Int) ≤ 2147483647)) (by decide) (by decide) (fun h97 => ?_) (fun h97 => ?_)
                    · have _q := h97
                      refine jx_ar (pc_q := 168) (st_q := [.int (i32 (0)), .int (i32 (G 12)), .int (i32 (r48)), .ref 66]) rfl rfl rfl rfl ?_
                      refine jx_vr (pc_q := 171) (as := [.int (i32 (r48)), .int (i32 (G 12)), .int (i32 (0))]) (st := []) rfl rfl rfl rfl ⟨rfl, rfl, Nat.le_of_ble_eq_true rfl⟩ rfl rfl (c_readBehind_w (dd := d) (hd := by omega) (hW := hW84) (s := r48) (place := G 12) (ch := 0) (ln := ln) (e_ln := show G80 9 = ln from ((hF85.1 9 rfl).trans ((hF51.1 9 rfl).trans (e_ln)))) (le := le) (e_le := show A81 4 (ln).toNat = le from (congrFun ((hF85.2 4 rfl).trans (hF51.2 4 rfl)) _).trans (e_le)) (at0 := at2_82) (e_at0 := show G80 10 = at2_82 from (e86)) (fk := fk2_49) (e_fk := show G80 16 = fk2_49 from ((hF85.1 16 rfl).trans (e53))) (op0 := op0) (e_op0 := show G80 15 = op0 from ((hF85.1 15 rfl).trans ((hF51.1 15 rfl).trans (e_op0)))) (nd := nd) (e_nd := show G80 31 = nd from ((hF85.1 31 rfl).trans ((hF51.1 31 rfl).trans (e_nd)))) (tk0 := tk2_83) (e_tk0 := show G80 11 = tk2_83 from (e87)) (ec := ec) (e_ec := show ecn A81 (G80 31) = ec from ec94) (sy := sy) (e_sy := show G80 19 = sy from ((hF85.1 19 rfl).trans ((hF51.1 19 rfl).trans (e_sy)))) (i_SV := (SV_ext (((hF85.1 29 rfl).trans (hF51.1 29 rfl))) (((hF85.2 14 rfl).trans (hF51.2 14 rfl))) i_SV)) (h_s := ⟨(Int.le_trans (by decide : (-2147483648 : Int) ≤ -2147483648) b52.1), (Int.le_trans b52.2 (by decide : (2147483647 : Int) ≤ 2147483647))⟩) (h_place := ⟨(Int.le_trans (by decide : (-2147483648 : Int) ≤ -3000) b44.1), (Int.le_trans b44.2 (by decide : (3002 : Int) ≤ 2147483647))⟩) (h_ch := ⟨(by decide), (by decide)⟩)  (p_0 := by omega) (p_1 := by omega) (p_2 := by omega) (p_3 := by omega) (p_4 := by omega) (p_5 := by omega) (p_6 := by omega) (p_7 := by omega) (p_8 := by omega) (p_9 := a63)) (fun o V_q hq => ?_)
                      obtain ⟨G98, A99, r100, at2_101, fk2_102, op2_103, nd2_104, tk2_105, ec2_106, rfl, rfl, hW107, hF108, hQ109, b110, e111, e112, e113, e114, e115, e116, p117, p118, p119, p120, p121, p122, q123⟩ := hq
                      have hF124 := Fr_tr hF92 hF108 (Fr_sub (by decide)) (Fr_sub (by decide))
                      have hP125 := Pf_tr hP93 hQ109 (by omega)
                      have bat2_101 : (0 : Int) ≤ at2_101 ∧ at2_101 ≤ 3002 := e111 ▸ hW107.1 10
                      have bfk2_102 : (0 : Int) ≤ fk2_102 ∧ fk2_102 ≤ 6 := e112 ▸ hW107.1 16
                      have bop2_103 : (-2147483648 : Int) ≤ op2_103 ∧ op2_103 ≤ 2147483647 := e113 ▸ hW107.1 15
                      have bnd2_104 : (0 : Int) ≤ nd2_104 ∧ nd2_104 ≤ 6999 := e114 ▸ hW107.1 31
                      have ztk2_105 := tz_b tk2_105
                      have btk2_105 : (0 : Int) ≤ tk2_105 ∧ tk2_105 ≤ 5 := e115 ▸ hW107.1 11
                      refine .inr ⟨_, rfl, ?_⟩
                      rcases q123 with ⟨a126, a127, a128⟩ | ⟨a129, a130, a131, a132, a133, a134⟩
                      · have _q : True := trivial
                        refine jx_ld (pc_q := 172) (l_q := jSto1 L72 3 (.int (i32 (r100)))) (st_q := []) rfl rfl ?_
                        obtain ⟨L135, eL135⟩ : ∃ q, q = jSto1 L72 3 (.int (i32 (r100))) := ⟨_, rfl⟩
                        rw [← eL135]
                        have gL135_0 : jGet L135 0 = some (.ref 66) := eL135 ▸ jg_ne (by decide) gL72_0 rfl
                        have gL135_1 : jGet L135 1 = some (.int (i32 (pa))) := eL135 ▸ jg_ne (by decide) gL72_1 rfl
                        have gL135_2 : jGet L135 2 = some (.int (i32 (kp))) := eL135 ▸ jg_ne (by decide) gL72_2 rfl
                        have gL135_4 : jGet L135 4 = some (.int (i32 (G 12))) := eL135 ▸ jg_ne (by decide) gL72_4 rfl
                        have gL135_5 : jGet L135 5 = some (.int (i32 (r48))) := eL135 ▸ jg_ne (by decide) gL72_5 rfl
                        have gL135_3 : jGet L135 3 = some (.int (i32 (r100))) := eL135 ▸ jg_eq
                        refine jx_ld (pc_q := 173) (l_q := L135) (st_q := [.ref 66]) rfl (jl_aloadn gL135_0) ?_
                        refine jx_ar (pc_q := 175) (st_q := [.int (i32 (7)), .ref 66]) rfl rfl rfl rfl ?_
                        refine jx_ld (pc_q := 176) (l_q := L135) (st_q := [.int (i32 (r100)), .int (i32 (7)), .ref 66]) rfl (jl_iloadn gL135_3) ?_
                        refine jx_ld (pc_q := 177) (l_q := L135) (st_q := [.int (i32 (pa)), .int (i32 (r100)), .int (i32 (7)), .ref 66]) rfl (jl_iloadn gL135_1) ?_
                        refine jx_ar (pc_q := 178) (st_q := [.int (i32 (0)), .int (i32 (pa)), .int (i32 (r100)), .int (i32 (7)), .ref 66]) rfl rfl rfl rfl ?_
                        refine jx_ar (pc_q := 179) (st_q := [.int (i32 (0)), .int (i32 (0)), .int (i32 (pa)), .int (i32 (r100)), .int (i32 (7)), .ref 66]) rfl rfl rfl rfl ?_
                        refine jx_vr (pc_q := 182) (as := [.int (i32 (7)), .int (i32 (r100)), .int (i32 (pa)), .int (i32 (0)), .int (i32 (0))]) (st := []) rfl rfl rfl rfl ⟨rfl, rfl, Nat.le_of_ble_eq_true rfl⟩ rfl rfl (c_node_o (dd := d) (hd := by omega) (hW := hW107) (kind := 7) (a := r100) (b := pa) (c := 0) (e := 0) (nd := nd2_104) (e_nd := show G98 31 = nd2_104 from (e114)) (ec := ec2_106) (e_ec := show ecn A99 (G98 31) = ec2_106 from e116) (sy := sy) (e_sy := show G98 19 = sy from ((hF108.1 19 rfl).trans ((hF85.1 19 rfl).trans ((hF51.1 19 rfl).trans (e_sy)))))  (h_kind := ⟨(by decide), (by decide)⟩) (h_a := ⟨(Int.le_trans (by decide : (-2147483648 : Int) ≤ -2147483648) b110.1), (Int.le_trans b110.2 (by decide : (2147483647 : Int) ≤ 2147483647))⟩) (h_b := ⟨(Int.le_trans (by decide : (-2147483648 : Int) ≤ -2147483648) h_pa.1), (Int.le_trans h_pa.2 (by decide : (2147483647 : Int) ≤ 2147483647))⟩) (h_c := ⟨(by decide), (by decide)⟩) (h_e := ⟨(by decide), (by decide)⟩)  (p_0 := by omega) (p_1 := by omega) (p_2 := by omega)) (fun o V_q hq => ?_)
                        obtain ⟨G136, A137, nd2_138, ec2_139, rfl, rfl, hW140, hF141, hQ142, e143, e144, p145, p146, p147, p148, -⟩ := hq
                        have hF150 := Fr_tr hF124 hF141 (Fr_sub (by decide)) (Fr_sub (by decide))
                        have hP151 := Pf_tr hP125 hQ142 (by omega)
                        have bnd2_138 : (0 : Int) ≤ nd2_138 ∧ nd2_138 ≤ 6999 := e143 ▸ hW140.1 31
                        refine .inr ⟨_, rfl, ?_⟩
                        refine jx_rt (v := some (.int (i32 (nd2_104)))) rfl rfl rfl rfl rfl rfl ?_
                        have z152 := tz_f (tk2_105)
                        exact ⟨_, _, _, at2_101, fk2_102, op2_103, nd2_138, tk2_105, ec2_139, rfl, rfl, hW140, hF150, hP151, by omega, ((hF141.1 10 rfl).trans (e111)), ((hF141.1 16 rfl).trans (e112)), ((hF141.1 15 rfl).trans (e113)), (e143), ((hF141.1 11 rfl).trans (e115)), e144, by omega, by omega, by omega, by omega, by omega, by omega, by first | exact Or.inl (⟨by omega, by omega, by omega⟩)⟩
                      · have _q : True := trivial
                        refine jx_ld (pc_q := 172) (l_q := jSto1 L72 3 (.int (i32 (r100)))) (st_q := []) rfl rfl ?_
                        obtain ⟨L153, eL153⟩ : ∃ q, q = jSto1 L72 3 (.int (i32 (r100))) := ⟨_, rfl⟩
                        rw [← eL153]
                        have gL153_0 : jGet L153 0 = some (.ref 66) := eL153 ▸ jg_ne (by decide) gL72_0 rfl
                        have gL153_1 : jGet L153 1 = some (.int (i32 (pa))) := eL153 ▸ jg_ne (by decide) gL72_1 rfl
                        have gL153_2 : jGet L153 2 = some (.int (i32 (kp))) := eL153 ▸ jg_ne (by decide) gL72_2 rfl
                        have gL153_4 : jGet L153 4 = some (.int (i32 (G 12))) := eL153 ▸ jg_ne (by decide) gL72_4 rfl
                        have gL153_5 : jGet L153 5 = some (.int (i32 (r48))) := eL153 ▸ jg_ne (by decide) gL72_5 rfl
                        have gL153_3 : jGet L153 3 = some (.int (i32 (r100))) := eL153 ▸ jg_eq
                        refine jx_ld (pc_q := 173) (l_q := L153) (st_q := [.ref 66]) rfl (jl_aloadn gL153_0) ?_
                        refine jx_ar (pc_q := 175) (st_q := [.int (i32 (7)), .ref 66]) rfl rfl rfl rfl ?_
                        refine jx_ld (pc_q := 176) (l_q := L153) (st_q := [.int (i32 (r100)), .int (i32 (7)), .ref 66]) rfl (jl_iloadn gL153_3) ?_
                        refine jx_ld (pc_q := 177) (l_q := L153) (st_q := [.int (i32 (pa)), .int (i32 (r100)), .int (i32 (7)), .ref 66]) rfl (jl_iloadn gL153_1) ?_
                        refine jx_ar (pc_q := 178) (st_q := [.int (i32 (0)), .int (i32 (pa)), .int (i32 (r100)), .int (i32 (7)), .ref 66]) rfl rfl rfl rfl ?_
                        refine jx_ar (pc_q := 179) (st_q := [.int (i32 (0)), .int (i32 (0)), .int (i32 (pa)), .int (i32 (r100)), .int (i32 (7)), .ref 66]) rfl rfl rfl rfl ?_
                        refine jx_vr (pc_q := 182) (as := [.int (i32 (7)), .int (i32 (r100)), .int (i32 (pa)), .int (i32 (0)), .int (i32 (0))]) (st := []) rfl rfl rfl rfl ⟨rfl, rfl, Nat.le_of_ble_eq_true rfl⟩ rfl rfl (c_node_o (dd := d) (hd := by omega) (hW := hW107) (kind := 7) (a := r100) (b := pa) (c := 0) (e := 0) (nd := nd2_104) (e_nd := show G98 31 = nd2_104 from (e114)) (ec := ec2_106) (e_ec := show ecn A99 (G98 31) = ec2_106 from e116) (sy := sy) (e_sy := show G98 19 = sy from ((hF108.1 19 rfl).trans ((hF85.1 19 rfl).trans ((hF51.1 19 rfl).trans (e_sy)))))  (h_kind := ⟨(by decide), (by decide)⟩) (h_a := ⟨(Int.le_trans (by decide : (-2147483648 : Int) ≤ -2147483648) b110.1), (Int.le_trans b110.2 (by decide : (2147483647 : Int) ≤ 2147483647))⟩) (h_b := ⟨(Int.le_trans (by decide : (-2147483648 : Int) ≤ -2147483648) h_pa.1), (Int.le_trans h_pa.2 (by decide : (2147483647 : Int) ≤ 2147483647))⟩) (h_c := ⟨(by decide), (by decide)⟩) (h_e := ⟨(by decide), (by decide)⟩)  (p_0 := by omega) (p_1 := by omega) (p_2 := by omega)) (fun o V_q hq => ?_)
                        obtain ⟨G154, A155, nd2_156, ec2_157, rfl, rfl, hW158, hF159, hQ160, e161, e162, p163, p164, p165, p166, -⟩ := hq
                        have hF168 := Fr_tr hF124 hF159 (Fr_sub (by decide)) (Fr_sub (by decide))
                        have hP169 := Pf_tr hP125 hQ160 (by omega)
                        have sf170 : wR A155 Vs sb (20) (0) (r100) (nd) (nd2_104) := wR_ag (by omega) (Sg_fr hF159 (by decide)) (Ag_pf hQ160 (by omega)) a132
                        have sf171 : NdM A155 (nd) (nd2_104) (sy) := NdM_pf hQ160 (by omega) (by omega) a134
                        have bnd2_156 : (0 : Int) ≤ nd2_156 ∧ nd2_156 ≤ 6999 := e161 ▸ hW158.1 31
                        refine .inr ⟨_, rfl, ?_⟩
                        refine jx_rt (v := some (.int (i32 (nd2_104)))) rfl rfl rfl rfl rfl rfl ?_
                        have z172 := tz_f (tk2_105)
                        exact ⟨_, _, _, at2_101, fk2_102, op2_103, nd2_156, tk2_105, ec2_157, rfl, rfl, hW158, hF168, hP169, by omega, ((hF159.1 10 rfl).trans (e111)), ((hF159.1 16 rfl).trans (e112)), ((hF159.1 15 rfl).trans (e113)), (e161), ((hF159.1 11 rfl).trans (e115)), e162, by omega, by omega, by omega, by omega, by omega, by omega, by first | exact Or.inr ((⟨by omega, by omega, by omega, by omega, by omega, (wA_mk p165 (by omega) (by omega) (by omega) (by omega) (.inr (.inl ⟨((show A155 7 (pa).toNat = kp from (congrFun ((hF159.2 7 rfl).trans ((hF108.2 7 rfl).trans ((hF85.2 7 rfl).trans (hF51.2 7 rfl)))) _).trans (e_kp)).trans (by omega : kp = 6)), (wR_mono (by omega) (by omega) (by omega) sf170)⟩))), (NX_nd p165), by omega, (NdM_w (NdM_app (sy := sy) sf171 p166 (by omega) (by omega) (by omega)) (by omega) (by omega) (by omega))⟩))⟩
                    · have _q := h97
                      refine jx_ar (pc_q := 164) (st_q := [.int (i32 (1)), .int (i32 (G 12)), .int (i32 (r48)), .ref 66]) rfl rfl rfl rfl ?_
                      refine jx_go (tg := 168) rfl rfl ?_
                      refine jx_vr (pc_q := 171) (as := [.int (i32 (r48)), .int (i32 (G 12)), .int (i32 (1))]) (st := []) rfl rfl rfl rfl ⟨rfl, rfl, Nat.le_of_ble_eq_true rfl⟩ rfl rfl (c_readBehind_w (dd := d) (hd := by omega) (hW := hW84) (s := r48) (place := G 12) (ch := 1) (ln := ln) (e_ln := show G80 9 = ln from ((hF85.1 9 rfl).trans ((hF51.1 9 rfl).trans (e_ln)))) (le := le) (e_le := show A81 4 (ln).toNat = le from (congrFun ((hF85.2 4 rfl).trans (hF51.2 4 rfl)) _).trans (e_le)) (at0 := at2_82) (e_at0 := show G80 10 = at2_82 from (e86)) (fk := fk2_49) (e_fk := show G80 16 = fk2_49 from ((hF85.1 16 rfl).trans (e53))) (op0 := op0) (e_op0 := show G80 15 = op0 from ((hF85.1 15 rfl).trans ((hF51.1 15 rfl).trans (e_op0)))) (nd := nd) (e_nd := show G80 31 = nd from ((hF85.1 31 rfl).trans ((hF51.1 31 rfl).trans (e_nd)))) (tk0 := tk2_83) (e_tk0 := show G80 11 = tk2_83 from (e87)) (ec := ec) (e_ec := show ecn A81 (G80 31) = ec from ec94) (sy := sy) (e_sy := show G80 19 = sy from ((hF85.1 19 rfl).trans ((hF51.1 19 rfl).trans (e_sy)))) (i_SV := (SV_ext (((hF85.1 29 rfl).trans (hF51.1 29 rfl))) (((hF85.2 14 rfl).trans (hF51.2 14 rfl))) i_SV)) (h_s := ⟨(Int.le_trans (by decide : (-2147483648 : Int) ≤ -2147483648) b52.1), (Int.le_trans b52.2 (by decide : (2147483647 : Int) ≤ 2147483647))⟩) (h_place := ⟨(Int.le_trans (by decide : (-2147483648 : Int) ≤ -3000) b44.1), (Int.le_trans b44.2 (by decide : (3002 : Int) ≤ 2147483647))⟩) (h_ch := ⟨(by decide), (by decide)⟩)  (p_0 := by omega) (p_1 := by omega) (p_2 := by omega) (p_3 := by omega) (p_4 := by omega) (p_5 := by omega) (p_6 := by omega) (p_7 := by omega) (p_8 := by omega) (p_9 := a63)) (fun o V_q hq => ?_)
                      obtain ⟨G173, A174, r175, at2_176, fk2_177, op2_178, nd2_179, tk2_180, ec2_181, rfl, rfl, hW182, hF183, hQ184, b185, e186, e187, e188, e189, e190, e191, p192, p193, p194, p195, p196, p197, q198⟩ := hq
                      have hF199 := Fr_tr hF92 hF183 (Fr_sub (by decide)) (Fr_sub (by decide))
                      have hP200 := Pf_tr hP93 hQ184 (by omega)
                      have bat2_176 : (0 : Int) ≤ at2_176 ∧ at2_176 ≤ 3002 := e186 ▸ hW182.1 10
                      have bfk2_177 : (0 : Int) ≤ fk2_177 ∧ fk2_177 ≤ 6 := e187 ▸ hW182.1 16
                      have bop2_178 : (-2147483648 : Int) ≤ op2_178 ∧ op2_178 ≤ 2147483647 := e188 ▸ hW182.1 15
                      have bnd2_179 : (0 : Int) ≤ nd2_179 ∧ nd2_179 ≤ 6999 := e189 ▸ hW182.1 31
                      have ztk2_180 := tz_b tk2_180
                      have btk2_180 : (0 : Int) ≤ tk2_180 ∧ tk2_180 ≤ 5 := e190 ▸ hW182.1 11
                      refine .inr ⟨_, rfl, ?_⟩
                      rcases q198 with ⟨a201, a202, a203⟩ | ⟨a204, a205, a206, a207, a208, a209⟩
                      · have _q : True := trivial
                        refine jx_ld (pc_q := 172) (l_q := jSto1 L72 3 (.int (i32 (r175)))) (st_q := []) rfl rfl ?_
                        obtain ⟨L210, eL210⟩ : ∃ q, q = jSto1 L72 3 (.int (i32 (r175))) := ⟨_, rfl⟩
                        rw [← eL210]
                        have gL210_0 : jGet L210 0 = some (.ref 66) := eL210 ▸ jg_ne (by decide) gL72_0 rfl
                        have gL210_1 : jGet L210 1 = some (.int (i32 (pa))) := eL210 ▸ jg_ne (by decide) gL72_1 rfl
                        have gL210_2 : jGet L210 2 = some (.int (i32 (kp))) := eL210 ▸ jg_ne (by decide) gL72_2 rfl
                        have gL210_4 : jGet L210 4 = some (.int (i32 (G 12))) := eL210 ▸ jg_ne (by decide) gL72_4 rfl
                        have gL210_5 : jGet L210 5 = some (.int (i32 (r48))) := eL210 ▸ jg_ne (by decide) gL72_5 rfl
                        have gL210_3 : jGet L210 3 = some (.int (i32 (r175))) := eL210 ▸ jg_eq
                        refine jx_ld (pc_q := 173) (l_q := L210) (st_q := [.ref 66]) rfl (jl_aloadn gL210_0) ?_
                        refine jx_ar (pc_q := 175) (st_q := [.int (i32 (7)), .ref 66]) rfl rfl rfl rfl ?_
                        refine jx_ld (pc_q := 176) (l_q := L210) (st_q := [.int (i32 (r175)), .int (i32 (7)), .ref 66]) rfl (jl_iloadn gL210_3) ?_
                        refine jx_ld (pc_q := 177) (l_q := L210) (st_q := [.int (i32 (pa)), .int (i32 (r175)), .int (i32 (7)), .ref 66]) rfl (jl_iloadn gL210_1) ?_
                        refine jx_ar (pc_q := 178) (st_q := [.int (i32 (0)), .int (i32 (pa)), .int (i32 (r175)), .int (i32 (7)), .ref 66]) rfl rfl rfl rfl ?_
                        refine jx_ar (pc_q := 179) (st_q := [.int (i32 (0)), .int (i32 (0)), .int (i32 (pa)), .int (i32 (r175)), .int (i32 (7)), .ref 66]) rfl rfl rfl rfl ?_
                        refine jx_vr (pc_q := 182) (as := [.int (i32 (7)), .int (i32 (r175)), .int (i32 (pa)), .int (i32 (0)), .int (i32 (0))]) (st := []) rfl rfl rfl rfl ⟨rfl, rfl, Nat.le_of_ble_eq_true rfl⟩ rfl rfl (c_node_o (dd := d) (hd := by omega) (hW := hW182) (kind := 7) (a := r175) (b := pa) (c := 0) (e := 0) (nd := nd2_179) (e_nd := show G173 31 = nd2_179 from (e189)) (ec := ec2_181) (e_ec := show ecn A174 (G173 31) = ec2_181 from e191) (sy := sy) (e_sy := show G173 19 = sy from ((hF183.1 19 rfl).trans ((hF85.1 19 rfl).trans ((hF51.1 19 rfl).trans (e_sy)))))  (h_kind := ⟨(by decide), (by decide)⟩) (h_a := ⟨(Int.le_trans (by decide : (-2147483648 : Int) ≤ -2147483648) b185.1), (Int.le_trans b185.2 (by decide : (2147483647 : Int) ≤ 2147483647))⟩) (h_b := ⟨(Int.le_trans (by decide : (-2147483648 : Int) ≤ -2147483648) h_pa.1), (Int.le_trans h_pa.2 (by decide : (2147483647 : Int) ≤ 2147483647))⟩) (h_c := ⟨(by decide), (by decide)⟩) (h_e := ⟨(by decide), (by decide)⟩)  (p_0 := by omega) (p_1 := by omega) (p_2 := by omega)) (fun o V_q hq => ?_)
                        obtain ⟨G211, A212, nd2_213, ec2_214, rfl, rfl, hW215, hF216, hQ217, e218, e219, p220, p221, p222, p223, -⟩ := hq
                        have hF225 := Fr_tr hF199 hF216 (Fr_sub (by decide)) (Fr_sub (by decide))
                        have hP226 := Pf_tr hP200 hQ217 (by omega)
                        have bnd2_213 : (0 : Int) ≤ nd2_213 ∧ nd2_213 ≤ 6999 := e218 ▸ hW215.1 31
                        refine .inr ⟨_, rfl, ?_⟩
                        refine jx_rt (v := some (.int (i32 (nd2_179)))) rfl rfl rfl rfl rfl rfl ?_
                        have z227 := tz_f (tk2_180)
                        exact ⟨_, _, _, at2_176, fk2_177, op2_178, nd2_213, tk2_180, ec2_214, rfl, rfl, hW215, hF225, hP226, by omega, ((hF216.1 10 rfl).trans (e186)), ((hF216.1 16 rfl).trans (e187)), ((hF216.1 15 rfl).trans (e188)), (e218), ((hF216.1 11 rfl).trans (e190)), e219, by omega, by omega, by omega, by omega, by omega, by omega, by first | exact Or.inl (⟨by omega, by omega, by omega⟩)⟩
                      · have _q : True := trivial
                        refine jx_ld (pc_q := 172) (l_q := jSto1 L72 3 (.int (i32 (r175)))) (st_q := []) rfl rfl ?_
                        obtain ⟨L228, eL228⟩ : ∃ q, q = jSto1 L72 3 (.int (i32 (r175))) := ⟨_, rfl⟩
                        rw [← eL228]
                        have gL228_0 : jGet L228 0 = some (.ref 66) := eL228 ▸ jg_ne (by decide) gL72_0 rfl
                        have gL228_1 : jGet L228 1 = some (.int (i32 (pa))) := eL228 ▸ jg_ne (by decide) gL72_1 rfl
                        have gL228_2 : jGet L228 2 = some (.int (i32 (kp))) := eL228 ▸ jg_ne (by decide) gL72_2 rfl
                        have gL228_4 : jGet L228 4 = some (.int (i32 (G 12))) := eL228 ▸ jg_ne (by decide) gL72_4 rfl
                        have gL228_5 : jGet L228 5 = some (.int (i32 (r48))) := eL228 ▸ jg_ne (by decide) gL72_5 rfl
                        have gL228_3 : jGet L228 3 = some (.int (i32 (r175))) := eL228 ▸ jg_eq
                        refine jx_ld (pc_q := 173) (l_q := L228) (st_q := [.ref 66]) rfl (jl_aloadn gL228_0) ?_
                        refine jx_ar (pc_q := 175) (st_q := [.int (i32 (7)), .ref 66]) rfl rfl rfl rfl ?_
                        refine jx_ld (pc_q := 176) (l_q := L228) (st_q := [.int (i32 (r175)), .int (i32 (7)), .ref 66]) rfl (jl_iloadn gL228_3) ?_
                        refine jx_ld (pc_q := 177) (l_q := L228) (st_q := [.int (i32 (pa)), .int (i32 (r175)), .int (i32 (7)), .ref 66]) rfl (jl_iloadn gL228_1) ?_
                        refine jx_ar (pc_q := 178) (st_q := [.int (i32 (0)), .int (i32 (pa)), .int (i32 (r175)), .int (i32 (7)), .ref 66]) rfl rfl rfl rfl ?_
                        refine jx_ar (pc_q := 179) (st_q := [.int (i32 (0)), .int (i32 (0)), .int (i32 (pa)), .int (i32 (r175)), .int (i32 (7)), .ref 66]) rfl rfl rfl rfl ?_
                        refine jx_vr (pc_q := 182) (as := [.int (i32 (7)), .int (i32 (r175)), .int (i32 (pa)), .int (i32 (0)), .int (i32 (0))]) (st := []) rfl rfl rfl rfl ⟨rfl, rfl, Nat.le_of_ble_eq_true rfl⟩ rfl rfl (c_node_o (dd := d) (hd := by omega) (hW := hW182) (kind := 7) (a := r175) (b := pa) (c := 0) (e := 0) (nd := nd2_179) (e_nd := show G173 31 = nd2_179 from (e189)) (ec := ec2_181) (e_ec := show ecn A174 (G173 31) = ec2_181 from e191) (sy := sy) (e_sy := show G173 19 = sy from ((hF183.1 19 rfl).trans ((hF85.1 19 rfl).trans ((hF51.1 19 rfl).trans (e_sy)))))  (h_kind := ⟨(by decide), (by decide)⟩) (h_a := ⟨(Int.le_trans (by decide : (-2147483648 : Int) ≤ -2147483648) b185.1), (Int.le_trans b185.2 (by decide : (2147483647 : Int) ≤ 2147483647))⟩) (h_b := ⟨(Int.le_trans (by decide : (-2147483648 : Int) ≤ -2147483648) h_pa.1), (Int.le_trans h_pa.2 (by decide : (2147483647 : Int) ≤ 2147483647))⟩) (h_c := ⟨(by decide), (by decide)⟩) (h_e := ⟨(by decide), (by decide)⟩)  (p_0 := by omega) (p_1 := by omega) (p_2 := by omega)) (fun o V_q hq => ?_)
                        obtain ⟨G229, A230, nd2_231, ec2_232, rfl, rfl, hW233, hF234, hQ235, e236, e237, p238, p239, p240, p241, -⟩ := hq
                        have hF243 := Fr_tr hF199 hF234 (Fr_sub (by decide)) (Fr_sub (by decide))
                        have hP244 := Pf_tr hP200 hQ235 (by omega)
                        have sf245 : wR A230 Vs sb (20) (1) (r175) (nd) (nd2_179) := wR_ag (by omega) (Sg_fr hF234 (by decide)) (Ag_pf hQ235 (by omega)) a207
                        have sf246 : NdM A230 (nd) (nd2_179) (sy) := NdM_pf hQ235 (by omega) (by omega) a209
                        have bnd2_231 : (0 : Int) ≤ nd2_231 ∧ nd2_231 ≤ 6999 := e236 ▸ hW233.1 31
                        refine .inr ⟨_, rfl, ?_⟩
                        refine jx_rt (v := some (.int (i32 (nd2_179)))) rfl rfl rfl rfl rfl rfl ?_
                        have z247 := tz_f (tk2_180)
                        exact ⟨_, _, _, at2_176, fk2_177, op2_178, nd2_231, tk2_180, ec2_232, rfl, rfl, hW233, hF243, hP244, by omega, ((hF234.1 10 rfl).trans (e186)), ((hF234.1 16 rfl).trans (e187)), ((hF234.1 15 rfl).trans (e188)), (e236), ((hF234.1 11 rfl).trans (e190)), e237, by omega, by omega, by omega, by omega, by omega, by omega, by first | exact Or.inr ((⟨by omega, by omega, by omega, by omega, by omega, (wA_mk p240 (by omega) (by omega) (by omega) (by omega) (.inr (.inr (.inl ⟨((show A230 7 (pa).toNat = kp from (congrFun ((hF234.2 7 rfl).trans ((hF183.2 7 rfl).trans ((hF85.2 7 rfl).trans (hF51.2 7 rfl)))) _).trans (e_kp)).trans (by omega : kp = 8)), (wR_mono (by omega) (by omega) (by omega) sf245)⟩)))), (NX_nd p240), by omega, (NdM_w (NdM_app (sy := sy) sf246 p241 (by omega) (by omega) (by omega)) (by omega) (by omega) (by omega))⟩))⟩
                  · have _q := h96
                    refine jx_ld (pc_q := 139) (l_q := L72) (st_q := [.ref 66]) rfl (jl_aloadn gL72_0) ?_
                    refine jx_ar (pc_q := 140) (st_q := [.int (i32 (2)), .ref 66]) rfl rfl rfl rfl ?_
                    refine jx_ld (pc_q := 142) (l_q := L72) (st_q := [.int (i32 (r48)), .int (i32 (2)), .ref 66]) rfl (jl_iload gL72_5) ?_
                    refine jx_ar (pc_q := 143) (st_q := [.int (i32 (0)), .int (i32 (r48)), .int (i32 (2)), .ref 66]) rfl rfl rfl rfl ?_
                    refine jx_ar (pc_q := 144) (st_q := [.int (i32 (0)), .int (i32 (0)), .int (i32 (r48)), .int (i32 (2)), .ref 66]) rfl rfl rfl rfl ?_
                    refine jx_ar (pc_q := 145) (st_q := [.int (i32 (0)), .int (i32 (0)), .int (i32 (0)), .int (i32 (r48)), .int (i32 (2)), .ref 66]) rfl rfl rfl rfl ?_
                    refine jx_vr (pc_q := 148) (as := [.int (i32 (2)), .int (i32 (r48)), .int (i32 (0)), .int (i32 (0)), .int (i32 (0))]) (st := []) rfl rfl rfl rfl ⟨rfl, rfl, Nat.le_of_ble_eq_true rfl⟩ rfl rfl (c_node_o (dd := d) (hd := by omega) (hW := hW84) (kind := 2) (a := r48) (b := 0) (c := 0) (e := 0) (nd := nd) (e_nd := show G80 31 = nd from ((hF85.1 31 rfl).trans ((hF51.1 31 rfl).trans (e_nd)))) (ec := ec) (e_ec := show ecn A81 (G80 31) = ec from ec94) (sy := sy) (e_sy := show G80 19 = sy from ((hF85.1 19 rfl).trans ((hF51.1 19 rfl).trans (e_sy))))  (h_kind := ⟨(by decide), (by decide)⟩) (h_a := ⟨(Int.le_trans (by decide : (-2147483648 : Int) ≤ -2147483648) b52.1), (Int.le_trans b52.2 (by decide : (2147483647 : Int) ≤ 2147483647))⟩) (h_b := ⟨(by decide), (by decide)⟩) (h_c := ⟨(by decide), (by decide)⟩) (h_e := ⟨(by decide), (by decide)⟩)  (p_0 := by omega) (p_1 := by omega) (p_2 := by omega)) (fun o V_q hq => ?_)
                    obtain ⟨G248, A249, nd2_250, ec2_251, rfl, rfl, hW252, hF253, hQ254, e255, e256, p257, p258, p259, p260, -⟩ := hq
                    have hF262 := Fr_tr hF92 hF253 (Fr_sub (by decide)) (Fr_sub (by decide))
                    have hP263 := Pf_tr hP93 hQ254 (by omega)
                    have bnd2_250 : (0 : Int) ≤ nd2_250 ∧ nd2_250 ≤ 6999 := e255 ▸ hW252.1 31
                    refine .inr ⟨_, rfl, ?_⟩
                    refine jx_ld (pc_q := 149) (l_q := jSto1 L72 3 (.int (i32 (nd)))) (st_q := []) rfl rfl ?_
                    obtain ⟨L264, eL264⟩ : ∃ q, q = jSto1 L72 3 (.int (i32 (nd))) := ⟨_, rfl⟩
                    rw [← eL264]
                    have gL264_0 : jGet L264 0 = some (.ref 66) := eL264 ▸ jg_ne (by decide) gL72_0 rfl
                    have gL264_1 : jGet L264 1 = some (.int (i32 (pa))) := eL264 ▸ jg_ne (by decide) gL72_1 rfl
                    have gL264_2 : jGet L264 2 = some (.int (i32 (kp))) := eL264 ▸ jg_ne (by decide) gL72_2 rfl
                    have gL264_4 : jGet L264 4 = some (.int (i32 (G 12))) := eL264 ▸ jg_ne (by decide) gL72_4 rfl
                    have gL264_5 : jGet L264 5 = some (.int (i32 (r48))) := eL264 ▸ jg_ne (by decide) gL72_5 rfl
                    have gL264_3 : jGet L264 3 = some (.int (i32 (nd))) := eL264 ▸ jg_eq
                    refine jx_go (tg := 172) rfl rfl ?_
                    refine jx_ld (pc_q := 173) (l_q := L264) (st_q := [.ref 66]) rfl (jl_aloadn gL264_0) ?_
                    refine jx_ar (pc_q := 175) (st_q := [.int (i32 (7)), .ref 66]) rfl rfl rfl rfl ?_
                    refine jx_ld (pc_q := 176) (l_q := L264) (st_q := [.int (i32 (nd)), .int (i32 (7)), .ref 66]) rfl (jl_iloadn gL264_3) ?_
                    refine jx_ld (pc_q := 177) (l_q := L264) (st_q := [.int (i32 (pa)), .int (i32 (nd)), .int (i32 (7)), .ref 66]) rfl (jl_iloadn gL264_1) ?_
                    refine jx_ar (pc_q := 178) (st_q := [.int (i32 (0)), .int (i32 (pa)), .int (i32 (nd)), .int (i32 (7)), .ref 66]) rfl rfl rfl rfl ?_
                    refine jx_ar (pc_q := 179) (st_q := [.int (i32 (0)), .int (i32 (0)), .int (i32 (pa)), .int (i32 (nd)), .int (i32 (7)), .ref 66]) rfl rfl rfl rfl ?_
                    refine jx_vr (pc_q := 182) (as := [.int (i32 (7)), .int (i32 (nd)), .int (i32 (pa)), .int (i32 (0)), .int (i32 (0))]) (st := []) rfl rfl rfl rfl ⟨rfl, rfl, Nat.le_of_ble_eq_true rfl⟩ rfl rfl (c_node_o (dd := d) (hd := by omega) (hW := hW252) (kind := 7) (a := nd) (b := pa) (c := 0) (e := 0) (nd := nd2_250) (e_nd := show G248 31 = nd2_250 from (e255)) (ec := ec2_251) (e_ec := show ecn A249 (G248 31) = ec2_251 from e256) (sy := sy) (e_sy := show G248 19 = sy from ((hF253.1 19 rfl).trans ((hF85.1 19 rfl).trans ((hF51.1 19 rfl).trans (e_sy)))))  (h_kind := ⟨(by decide), (by decide)⟩) (h_a := ⟨(Int.le_trans (by decide : (-2147483648 : Int) ≤ 0) b_nd.1), (Int.le_trans b_nd.2 (by decide : (6999 : Int) ≤ 2147483647))⟩) (h_b := ⟨(Int.le_trans (by decide : (-2147483648 : Int) ≤ -2147483648) h_pa.1), (Int.le_trans h_pa.2 (by decide : (2147483647 : Int) ≤ 2147483647))⟩) (h_c := ⟨(by decide), (by decide)⟩) (h_e := ⟨(by decide), (by decide)⟩)  (p_0 := by omega) (p_1 := by omega) (p_2 := by omega)) (fun o V_q hq => ?_)
                    obtain ⟨G265, A266, nd2_267, ec2_268, rfl, rfl, hW269, hF270, hQ271, e272, e273, p274, p275, p276, p277, -⟩ := hq
                    have hF279 := Fr_tr hF262 hF270 (Fr_sub (by decide)) (Fr_sub (by decide))
                    have hP280 := Pf_tr hP263 hQ271 (by omega)
                    have sf281 : ND A266 (nd) (2) (r48) (0) (0) (0) (0) (0) := ND_ag (by omega) (Ag_pf hQ271 (by omega)) p259
                    have sf282 : NdM A266 (nd) (nd + 1) (sy) := NdM_pf hQ271 (by omega) (by omega) p260
                    have bnd2_267 : (0 : Int) ≤ nd2_267 ∧ nd2_267 ≤ 6999 := e272 ▸ hW269.1 31
                    refine .inr ⟨_, rfl, ?_⟩
                    refine jx_rt (v := some (.int (i32 (nd2_250)))) rfl rfl rfl rfl rfl rfl ?_
                    have z283 := tz_f (tk2_83)
                    exact ⟨_, _, _, at2_82, fk2_49, op0, nd2_267, tk2_83, ec2_268, rfl, rfl, hW269, hF279, hP280, by omega, ((hF270.1 10 rfl).trans ((hF253.1 10 rfl).trans (e86))), ((hF270.1 16 rfl).trans ((hF253.1 16 rfl).trans ((hF85.1 16 rfl).trans (e53)))), ((hF270.1 15 rfl).trans ((hF253.1 15 rfl).trans ((hF85.1 15 rfl).trans ((hF51.1 15 rfl).trans (e_op0))))), (e272), ((hF270.1 11 rfl).trans ((hF253.1 11 rfl).trans (e87))), e273, by omega, by omega, by omega, by omega, by omega, by omega, by first | exact Or.inr ((⟨by omega, by omega, by omega, by omega, by omega, (wA_mk p276 (by omega) (by omega) (by omega) (by omega) (.inr (.inr (.inr ⟨((show A266 7 (pa).toNat = kp from (congrFun ((hF270.2 7 rfl).trans ((hF253.2 7 rfl).trans ((hF85.2 7 rfl).trans (hF51.2 7 rfl)))) _).trans (e_kp)).trans (by omega : kp = 7)), wW_mk sf281 (by omega) (by omega) a63 (kq (P := kArr) (show A266 7 (r48).toNat = A 7 (r48).toNat from (congrFun ((hF270.2 7 rfl).trans ((hF253.2 7 rfl).trans ((hF85.2 7 rfl).trans (hF51.2 7 rfl)))) _)) (by unfold kArr; omega)) ((show A266 8 (r48).toNat = A 8 (r48).toNat from (congrFun ((hF270.2 8 rfl).trans ((hF253.2 8 rfl).trans ((hF85.2 8 rfl).trans (hF51.2 8 rfl)))) _)).trans ((by omega : A 8 (r48).toNat = zp).trans (show A266 8 (pa).toNat = zp from (congrFun ((hF270.2 8 rfl).trans ((hF253.2 8 rfl).trans ((hF85.2 8 rfl).trans (hF51.2 8 rfl)))) _).trans (e_zp)).symm))⟩)))), (NX_nd p276), by omega, (NdM_w (NdM_app (sy := sy) sf282 p277 (by omega) (by omega) (by omega)) (by omega) (by omega) (by omega))⟩))⟩
                · have _q := h79
                  refine jx_ld (pc_q := 91) (l_q := L72) (st_q := [.ref 66]) rfl (jl_aloadn gL72_0) ?_
                  refine jr_get (pc_q := 94) (i := 21) (v := .ref 74) rfl rfl (by decide) rfl rfl ?_
                  refine jx_ld (pc_q := 96) (l_q := L72) (st_q := [.int (i32 (r48)), .ref 74]) rfl (jl_iload gL72_5) ?_
                  have b284 : (0 : Int) ≤ A 7 (r48).toNat ∧ A 7 (r48).toNat ≤ 14 := hW.2 7 _
                  refine jr_ldv (pc_q := 97) (i := 7) (m := 260) (z := r48) (y := A 7 (r48).toNat) rfl (by decide) rfl (by decide) (by omega) (by omega) rfl (show A47 7 (r48).toNat = A 7 (r48).toNat from (congrFun (hF51.2 7 rfl) _)) ?_
                  refine jx_st (pc_q := 100) (as := [.int (i32 (A 7 (r48).toNat))]) (st := []) rfl rfl ⟨rfl, Nat.le_of_ble_eq_true rfl⟩ rfl rfl rfl (c_isArray (dd := d) (hd := by omega) (k := A 7 (r48).toNat)   (h_k := ⟨(Int.le_trans (by decide : (-2147483648 : Int) ≤ 0) b284.1), (Int.le_trans b284.2 (by decide : (14 : Int) ≤ 2147483647))⟩)  ) (fun o V_q hq => ?_)
                  obtain ⟨r285, rfl, rfl, b286, q287⟩ := hq
                  refine .inr ⟨_, rfl, ?_⟩
                  rcases q287 with ⟨rfl, a288⟩ | rfl
                  · have _q : True := trivial
                    refine jx_if_eq (pc_q := 103) (tg := 119) rfl rfl rfl (by decide) (by decide) (fun h289 => ?_) (fun h289 => ?_)
                    · have _q := h289
                      exact absurd h289 (by omega)
                    · have _q := h289
                      refine jx_ld (pc_q := 104) (l_q := L72) (st_q := [.ref 66]) rfl (jl_aloadn gL72_0) ?_
                      refine jr_get (pc_q := 107) (i := 22) (v := .ref 75) rfl rfl (by decide) rfl rfl ?_
                      refine jx_ld (pc_q := 109) (l_q := L72) (st_q := [.int (i32 (r48)), .ref 75]) rfl (jl_iload gL72_5) ?_
                      have b290 : (-2147483648 : Int) ≤ A 8 (r48).toNat ∧ A 8 (r48).toNat ≤ 2147483647 := hW.2 8 _
                      refine jr_ldv (pc_q := 110) (i := 8) (m := 260) (z := r48) (y := A 8 (r48).toNat) rfl (by decide) rfl (by decide) (by omega) (by omega) rfl (show A47 8 (r48).toNat = A 8 (r48).toNat from (congrFun (hF51.2 8 rfl) _)) ?_
                      refine jx_ld (pc_q := 111) (l_q := L72) (st_q := [.ref 66, .int (i32 (A 8 (r48).toNat))]) rfl (jl_aloadn gL72_0) ?_
                      refine jr_get (pc_q := 114) (i := 22) (v := .ref 75) rfl rfl (by decide) rfl rfl ?_
                      refine jx_ld (pc_q := 115) (l_q := L72) (st_q := [.int (i32 (pa)), .ref 75, .int (i32 (A 8 (r48).toNat))]) rfl (jl_iloadn gL72_1) ?_
                      refine jr_ldv (pc_q := 116) (i := 8) (m := 260) (z := pa) (y := zp) rfl (by decide) rfl (by decide) (by omega) (by omega) rfl (show A47 8 (pa).toNat = zp from (congrFun (hF51.2 8 rfl) _).trans (e_zp)) ?_
                      refine jx_icmp_eq (pc_q := 119) (tg := 128) rfl rfl rfl (Int.le_trans (by decide : (-2147483648 : Int) ≤ -2147483648) b290.1) (Int.le_trans b290.2 (by decide : (2147483647 : Int) ≤ 2147483647)) (Int.le_trans (by decide : (-2147483648 : Int) ≤ -2147483648) b_zp.1) (Int.le_trans b_zp.2 (by decide : (2147483647 : Int) ≤ 2147483647)) (fun h291 => ?_) (fun h291 => ?_)
                      · have _q := h291
                        refine jx_ld (pc_q := 129) (l_q := L72) (st_q := [.ref 66]) rfl (jl_aloadn gL72_0) ?_
                        refine jx_vr (pc_q := 132) (as := []) (st := []) rfl rfl rfl rfl ⟨rfl, rfl, Nat.le_of_ble_eq_true rfl⟩ rfl rfl (c_next (dd := d) (hd := by omega) (hW := hW50)  (ln := ln) (e_ln := show G46 9 = ln from ((hF51.1 9 rfl).trans (e_ln))) (le := le) (e_le := show A47 4 (ln).toNat = le from (congrFun (hF51.2 4 rfl) _).trans (e_le)) (at0 := at0) (e_at0 := show G46 10 = at0 from ((hF51.1 10 rfl).trans (e_at0)))    (p_0 := by omega)) (fun o V_q hq => ?_)
                        obtain ⟨G292, A293, at2_294, tk2_295, rfl, rfl, hW296, hF297, e298, e299, p300, p301, p302, -⟩ := hq
                        have hF304 := Fr_tr hF55 hF297 (Fr_sub (by decide)) (Fr_sub (by decide))
                        have hP305 := Pf_f hP56 hF297 (by decide)
                        have ec306 : ecn A293 (G292 31) = ec := (ecn_f (hF297.2 15 rfl) (hF297.1 31 rfl)).trans ec57
                        have bat2_294 : (0 : Int) ≤ at2_294 ∧ at2_294 ≤ 3002 := e298 ▸ hW296.1 10
                        have ztk2_295 := tz_b tk2_295
                        have btk2_295 : (0 : Int) ≤ tk2_295 ∧ tk2_295 ≤ 5 := e299 ▸ hW296.1 11
                        refine .inl ⟨rfl, ?_⟩
                        have pz307 : at0 + tz tk2_295 ≤ at2_294 := by omega
                        refine jx_ld (pc_q := 133) (l_q := L72) (st_q := [.int (i32 (kp))]) rfl (jl_iloadn gL72_2) ?_
                        refine jx_ar (pc_q := 135) (st_q := [.int (i32 (7)), .int (i32 (kp))]) rfl rfl rfl rfl ?_
                        refine jx_icmp_ne (pc_q := 138) (tg := 152) rfl rfl rfl (Int.le_trans (by decide : (-2147483648 : Int) ≤ 0) b_kp.1) (Int.le_trans b_kp.2 (by decide : (14 : Int) ≤ 2147483647)) (by decide) (by decide) (fun h308 => ?_) (fun h308 => ?_)
                        · have _q := h308
                          refine jx_ld (pc_q := 153) (l_q := L72) (st_q := [.ref 66]) rfl (jl_aloadn gL72_0) ?_
                          refine jx_ld (pc_q := 155) (l_q := L72) (st_q := [.int (i32 (r48)), .ref 66]) rfl (jl_iload gL72_5) ?_
                          refine jx_ld (pc_q := 157) (l_q := L72) (st_q := [.int (i32 (G 12)), .int (i32 (r48)), .ref 66]) rfl (jl_iload gL72_4) ?_
                          refine jx_ld (pc_q := 158) (l_q := L72) (st_q := [.int (i32 (kp)), .int (i32 (G 12)), .int (i32 (r48)), .ref 66]) rfl (jl_iloadn gL72_2) ?_
                          refine jx_ar (pc_q := 160) (st_q := [.int (i32 (8)), .int (i32 (kp)), .int (i32 (G 12)), .int (i32 (r48)), .ref 66]) rfl rfl rfl rfl ?_
                          refine jx_icmp_ne (pc_q := 163) (tg := 167) rfl rfl rfl (Int.le_trans (by decide : (-2147483648 : Int) ≤ 0) b_kp.1) (Int.le_trans b_kp.2 (by decide : (14 : Int) ≤ 2147483647)) (by decide) (by decide) (fun h309 => ?_) (fun h309 => ?_)
                          · have _q := h309
                            refine jx_ar (pc_q := 168) (st_q := [.int (i32 (0)), .int (i32 (G 12)), .int (i32 (r48)), .ref 66]) rfl rfl rfl rfl ?_
                            refine jx_vr (pc_q := 171) (as := [.int (i32 (r48)), .int (i32 (G 12)), .int (i32 (0))]) (st := []) rfl rfl rfl rfl ⟨rfl, rfl, Nat.le_of_ble_eq_true rfl⟩ rfl rfl (c_readBehind_w (dd := d) (hd := by omega) (hW := hW296) (s := r48) (place := G 12) (ch := 0) (ln := ln) (e_ln := show G292 9 = ln from ((hF297.1 9 rfl).trans ((hF51.1 9 rfl).trans (e_ln)))) (le := le) (e_le := show A293 4 (ln).toNat = le from (congrFun ((hF297.2 4 rfl).trans (hF51.2 4 rfl)) _).trans (e_le)) (at0 := at2_294) (e_at0 := show G292 10 = at2_294 from (e298)) (fk := fk2_49) (e_fk := show G292 16 = fk2_49 from ((hF297.1 16 rfl).trans (e53))) (op0 := op0) (e_op0 := show G292 15 = op0 from ((hF297.1 15 rfl).trans ((hF51.1 15 rfl).trans (e_op0)))) (nd := nd) (e_nd := show G292 31 = nd from ((hF297.1 31 rfl).trans ((hF51.1 31 rfl).trans (e_nd)))) (tk0 := tk2_295) (e_tk0 := show G292 11 = tk2_295 from (e299)) (ec := ec) (e_ec := show ecn A293 (G292 31) = ec from ec306) (sy := sy) (e_sy := show G292 19 = sy from ((hF297.1 19 rfl).trans ((hF51.1 19 rfl).trans (e_sy)))) (i_SV := (SV_ext (((hF297.1 29 rfl).trans (hF51.1 29 rfl))) (((hF297.2 14 rfl).trans (hF51.2 14 rfl))) i_SV)) (h_s := ⟨(Int.le_trans (by decide : (-2147483648 : Int) ≤ -2147483648) b52.1), (Int.le_trans b52.2 (by decide : (2147483647 : Int) ≤ 2147483647))⟩) (h_place := ⟨(Int.le_trans (by decide : (-2147483648 : Int) ≤ -3000) b44.1), (Int.le_trans b44.2 (by decide : (3002 : Int) ≤ 2147483647))⟩) (h_ch := ⟨(by decide), (by decide)⟩)  (p_0 := by omega) (p_1 := by omega) (p_2 := by omega) (p_3 := by omega) (p_4 := by omega) (p_5 := by omega) (p_6 := by omega) (p_7 := by omega) (p_8 := by omega) (p_9 := a63)) (fun o V_q hq => ?_)
                            obtain ⟨G310, A311, r312, at2_313, fk2_314, op2_315, nd2_316, tk2_317, ec2_318, rfl, rfl, hW319, hF320, hQ321, b322, e323, e324, e325, e326, e327, e328, p329, p330, p331, p332, p333, p334, q335⟩ := hq
                            have hF336 := Fr_tr hF304 hF320 (Fr_sub (by decide)) (Fr_sub (by decide))
                            have hP337 := Pf_tr hP305 hQ321 (by omega)
                            have bat2_313 : (0 : Int) ≤ at2_313 ∧ at2_313 ≤ 3002 := e323 ▸ hW319.1 10
                            have bfk2_314 : (0 : Int) ≤ fk2_314 ∧ fk2_314 ≤ 6 := e324 ▸ hW319.1 16
                            have bop2_315 : (-2147483648 : Int) ≤ op2_315 ∧ op2_315 ≤ 2147483647 := e325 ▸ hW319.1 15
                            have bnd2_316 : (0 : Int) ≤ nd2_316 ∧ nd2_316 ≤ 6999 := e326 ▸ hW319.1 31
                            have ztk2_317 := tz_b tk2_317
                            have btk2_317 : (0 : Int) ≤ tk2_317 ∧ tk2_317 ≤ 5 := e327 ▸ hW319.1 11
                            refine .inr ⟨_, rfl, ?_⟩
                            rcases q335 with ⟨a338, a339, a340⟩ | ⟨a341, a342, a343, a344, a345, a346⟩
                            · have _q : True := trivial
                              refine jx_ld (pc_q := 172) (l_q := jSto1 L72 3 (.int (i32 (r312)))) (st_q := []) rfl rfl ?_
                              obtain ⟨L347, eL347⟩ : ∃ q, q = jSto1 L72 3 (.int (i32 (r312))) := ⟨_, rfl⟩
                              rw [← eL347]
                              have gL347_0 : jGet L347 0 = some (.ref 66) := eL347 ▸ jg_ne (by decide) gL72_0 rfl
                              have gL347_1 : jGet L347 1 = some (.int (i32 (pa))) := eL347 ▸ jg_ne (by decide) gL72_1 rfl
                              have gL347_2 : jGet L347 2 = some (.int (i32 (kp))) := eL347 ▸ jg_ne (by decide) gL72_2 rfl
                              have gL347_4 : jGet L347 4 = some (.int (i32 (G 12))) := eL347 ▸ jg_ne (by decide) gL72_4 rfl
                              have gL347_5 : jGet L347 5 = some (.int (i32 (r48))) := eL347 ▸ jg_ne (by decide) gL72_5 rfl
                              have gL347_3 : jGet L347 3 = some (.int (i32 (r312))) := eL347 ▸ jg_eq
                              refine jx_ld (pc_q := 173) (l_q := L347) (st_q := [.ref 66]) rfl (jl_aloadn gL347_0) ?_
                              refine jx_ar (pc_q := 175) (st_q := [.int (i32 (7)), .ref 66]) rfl rfl rfl rfl ?_
                              refine jx_ld (pc_q := 176) (l_q := L347) (st_q := [.int (i32 (r312)), .int (i32 (7)), .ref 66]) rfl (jl_iloadn gL347_3) ?_
                              refine jx_ld (pc_q := 177) (l_q := L347) (st_q := [.int (i32 (pa)), .int (i32 (r312)), .int (i32 (7)), .ref 66]) rfl (jl_iloadn gL347_1) ?_
                              refine jx_ar (pc_q := 178) (st_q := [.int (i32 (0)), .int (i32 (pa)), .int (i32 (r312)), .int (i32 (7)), .ref 66]) rfl rfl rfl rfl ?_
                              refine jx_ar (pc_q := 179) (st_q := [.int (i32 (0)), .int (i32 (0)), .int (i32 (pa)), .int (i32 (r312)), .int (i32 (7)), .ref 66]) rfl rfl rfl rfl ?_
                              refine jx_vr (pc_q := 182) (as := [.int (i32 (7)), .int (i32 (r312)), .int (i32 (pa)), .int (i32 (0)), .int (i32 (0))]) (st := []) rfl rfl rfl rfl ⟨rfl, rfl, Nat.le_of_ble_eq_true rfl⟩ rfl rfl (c_node_o (dd := d) (hd := by omega) (hW := hW319) (kind := 7) (a := r312) (b := pa) (c := 0) (e := 0) (nd := nd2_316) (e_nd := show G310 31 = nd2_316 from (e326)) (ec := ec2_318) (e_ec := show ecn A311 (G310 31) = ec2_318 from e328) (sy := sy) (e_sy := show G310 19 = sy from ((hF320.1 19 rfl).trans ((hF297.1 19 rfl).trans ((hF51.1 19 rfl).trans (e_sy)))))  (h_kind := ⟨(by decide), (by decide)⟩) (h_a := ⟨(Int.le_trans (by decide : (-2147483648 : Int) ≤ -2147483648) b322.1), (Int.le_trans b322.2 (by decide : (2147483647 : Int) ≤ 2147483647))⟩) (h_b := ⟨(Int.le_trans (by decide : (-2147483648 : Int) ≤ -2147483648) h_pa.1), (Int.le_trans h_pa.2 (by decide : (2147483647 : Int) ≤ 2147483647))⟩) (h_c := ⟨(by decide), (by decide)⟩) (h_e := ⟨(by decide), (by decide)⟩)  (p_0 := by omega) (p_1 := by omega) (p_2 := by omega)) (fun o V_q hq => ?_)
                              obtain ⟨G348, A349, nd2_350, ec2_351, rfl, rfl, hW352, hF353, hQ354, e355, e356, p357, p358, p359, p360, -⟩ := hq
                              have hF362 := Fr_tr hF336 hF353 (Fr_sub (by decide)) (Fr_sub (by decide))
                              have hP363 := Pf_tr hP337 hQ354 (by omega)
                              have bnd2_350 : (0 : Int) ≤ nd2_350 ∧ nd2_350 ≤ 6999 := e355 ▸ hW352.1 31
                              refine .inr ⟨_, rfl, ?_⟩
                              refine jx_rt (v := some (.int (i32 (nd2_316)))) rfl rfl rfl rfl rfl rfl ?_
                              have z364 := tz_f (tk2_317)
                              exact ⟨_, _, _, at2_313, fk2_314, op2_315, nd2_350, tk2_317, ec2_351, rfl, rfl, hW352, hF362, hP363, by omega, ((hF353.1 10 rfl).trans (e323)), ((hF353.1 16 rfl).trans (e324)), ((hF353.1 15 rfl).trans (e325)), (e355), ((hF353.1 11 rfl).trans (e327)), e356, by omega, by omega, by omega, by omega, by omega, by omega, by first | exact Or.inl (⟨by omega, by omega, by omega⟩)⟩
                            · have _q : True := trivial
                              refine jx_ld (pc_q := 172) (l_q := jSto1 L72 3 (.int (i32 (r312)))) (st_q := []) rfl rfl ?_
                              obtain ⟨L365, eL365⟩ : ∃ q, q = jSto1 L72 3 (.int (i32 (r312))) := ⟨_, rfl⟩
                              rw [← eL365]
                              have gL365_0 : jGet L365 0 = some (.ref 66) := eL365 ▸ jg_ne (by decide) gL72_0 rfl
                              have gL365_1 : jGet L365 1 = some (.int (i32 (pa))) := eL365 ▸ jg_ne (by decide) gL72_1 rfl
                              have gL365_2 : jGet L365 2 = some (.int (i32 (kp))) := eL365 ▸ jg_ne (by decide) gL72_2 rfl
                              have gL365_4 : jGet L365 4 = some (.int (i32 (G 12))) := eL365 ▸ jg_ne (by decide) gL72_4 rfl
                              have gL365_5 : jGet L365 5 = some (.int (i32 (r48))) := eL365 ▸ jg_ne (by decide) gL72_5 rfl
                              have gL365_3 : jGet L365 3 = some (.int (i32 (r312))) := eL365 ▸ jg_eq
                              refine jx_ld (pc_q := 173) (l_q := L365) (st_q := [.ref 66]) rfl (jl_aloadn gL365_0) ?_
                              refine jx_ar (pc_q := 175) (st_q := [.int (i32 (7)), .ref 66]) rfl rfl rfl rfl ?_
                              refine jx_ld (pc_q := 176) (l_q := L365) (st_q := [.int (i32 (r312)), .int (i32 (7)), .ref 66]) rfl (jl_iloadn gL365_3) ?_
                              refine jx_ld (pc_q := 177) (l_q := L365) (st_q := [.int (i32 (pa)), .int (i32 (r312)), .int (i32 (7)), .ref 66]) rfl (jl_iloadn gL365_1) ?_
                              refine jx_ar (pc_q := 178) (st_q := [.int (i32 (0)), .int (i32 (pa)), .int (i32 (r312)), .int (i32 (7)), .ref 66]) rfl rfl rfl rfl ?_
                              refine jx_ar (pc_q := 179) (st_q := [.int (i32 (0)), .int (i32 (0)), .int (i32 (pa)), .int (i32 (r312)), .int (i32 (7)), .ref 66]) rfl rfl rfl rfl ?_
                              refine jx_vr (pc_q := 182) (as := [.int (i32 (7)), .int (i32 (r312)), .int (i32 (pa)), .int (i32 (0)), .int (i32 (0))]) (st := []) rfl rfl rfl rfl ⟨rfl, rfl, Nat.le_of_ble_eq_true rfl⟩ rfl rfl (c_node_o (dd := d) (hd := by omega) (hW := hW319) (kind := 7) (a := r312) (b := pa) (c := 0) (e := 0) (nd := nd2_316) (e_nd := show G310 31 = nd2_316 from (e326)) (ec := ec2_318) (e_ec := show ecn A311 (G310 31) = ec2_318 from e328) (sy := sy) (e_sy := show G310 19 = sy from ((hF320.1 19 rfl).trans ((hF297.1 19 rfl).trans ((hF51.1 19 rfl).trans (e_sy)))))  (h_kind := ⟨(by decide), (by decide)⟩) (h_a := ⟨(Int.le_trans (by decide : (-2147483648 : Int) ≤ -2147483648) b322.1), (Int.le_trans b322.2 (by decide : (2147483647 : Int) ≤ 2147483647))⟩) (h_b := ⟨(Int.le_trans (by decide : (-2147483648 : Int) ≤ -2147483648) h_pa.1), (Int.le_trans h_pa.2 (by decide : (2147483647 : Int) ≤ 2147483647))⟩) (h_c := ⟨(by decide), (by decide)⟩) (h_e := ⟨(by decide), (by decide)⟩)  (p_0 := by omega) (p_1 := by omega) (p_2 := by omega)) (fun o V_q hq => ?_)
                              obtain ⟨G366, A367, nd2_368, ec2_369, rfl, rfl, hW370, hF371, hQ372, e373, e374, p375, p376, p377, p378, -⟩ := hq
                              have hF380 := Fr_tr hF336 hF371 (Fr_sub (by decide)) (Fr_sub (by decide))
                              have hP381 := Pf_tr hP337 hQ372 (by omega)
                              have sf382 : wR A367 Vs sb (20) (0) (r312) (nd) (nd2_316) := wR_ag (by omega) (Sg_fr hF371 (by decide)) (Ag_pf hQ372 (by omega)) a344
                              have sf383 : NdM A367 (nd) (nd2_316) (sy) := NdM_pf hQ372 (by omega) (by omega) a346
                              have bnd2_368 : (0 : Int) ≤ nd2_368 ∧ nd2_368 ≤ 6999 := e373 ▸ hW370.1 31
                              refine .inr ⟨_, rfl, ?_⟩
                              refine jx_rt (v := some (.int (i32 (nd2_316)))) rfl rfl rfl rfl rfl rfl ?_
                              have z384 := tz_f (tk2_317)
                              exact ⟨_, _, _, at2_313, fk2_314, op2_315, nd2_368, tk2_317, ec2_369, rfl, rfl, hW370, hF380, hP381, by omega, ((hF371.1 10 rfl).trans (e323)), ((hF371.1 16 rfl).trans (e324)), ((hF371.1 15 rfl).trans (e325)), (e373), ((hF371.1 11 rfl).trans (e327)), e374, by omega, by omega, by omega, by omega, by omega, by omega, by first | exact Or.inr ((⟨by omega, by omega, by omega, by omega, by omega, (wA_mk p377 (by omega) (by omega) (by omega) (by omega) (.inr (.inl ⟨((show A367 7 (pa).toNat = kp from (congrFun ((hF371.2 7 rfl).trans ((hF320.2 7 rfl).trans ((hF297.2 7 rfl).trans (hF51.2 7 rfl)))) _).trans (e_kp)).trans (by omega : kp = 6)), (wR_mono (by omega) (by omega) (by omega) sf382)⟩))), (NX_nd p377), by omega, (NdM_w (NdM_app (sy := sy) sf383 p378 (by omega) (by omega) (by omega)) (by omega) (by omega) (by omega))⟩))⟩
                          · have _q := h309
                            refine jx_ar (pc_q := 164) (st_q := [.int (i32 (1)), .int (i32 (G 12)), .int (i32 (r48)), .ref 66]) rfl rfl rfl rfl ?_
                            refine jx_go (tg := 168) rfl rfl ?_
                            refine jx_vr (pc_q := 171) (as := [.int (i32 (r48)), .int (i32 (G 12)), .int (i32 (1))]) (st := []) rfl rfl rfl rfl ⟨rfl, rfl, Nat.le_of_ble_eq_true rfl⟩ rfl rfl (c_readBehind_w (dd := d) (hd := by omega) (hW := hW296) (s := r48) (place := G 12) (ch := 1) (ln := ln) (e_ln := show G292 9 = ln from ((hF297.1 9 rfl).trans ((hF51.1 9 rfl).trans (e_ln)))) (le := le) (e_le := show A293 4 (ln).toNat = le from (congrFun ((hF297.2 4 rfl).trans (hF51.2 4 rfl)) _).trans (e_le)) (at0 := at2_294) (e_at0 := show G292 10 = at2_294 from (e298)) (fk := fk2_49) (e_fk := show G292 16 = fk2_49 from ((hF297.1 16 rfl).trans (e53))) (op0 := op0) (e_op0 := show G292 15 = op0 from ((hF297.1 15 rfl).trans ((hF51.1 15 rfl).trans (e_op0)))) (nd := nd) (e_nd := show G292 31 = nd from ((hF297.1 31 rfl).trans ((hF51.1 31 rfl).trans (e_nd)))) (tk0 := tk2_295) (e_tk0 := show G292 11 = tk2_295 from (e299)) (ec := ec) (e_ec := show ecn A293 (G292 31) = ec from ec306) (sy := sy) (e_sy := show G292 19 = sy from ((hF297.1 19 rfl).trans ((hF51.1 19 rfl).trans (e_sy)))) (i_SV := (SV_ext (((hF297.1 29 rfl).trans (hF51.1 29 rfl))) (((hF297.2 14 rfl).trans (hF51.2 14 rfl))) i_SV)) (h_s := ⟨(Int.le_trans (by decide : (-2147483648 : Int) ≤ -2147483648) b52.1), (Int.le_trans b52.2 (by decide : (2147483647 : Int) ≤ 2147483647))⟩) (h_place := ⟨(Int.le_trans (by decide : (-2147483648 : Int) ≤ -3000) b44.1), (Int.le_trans b44.2 (by decide : (3002 : Int) ≤ 2147483647))⟩) (h_ch := ⟨(by decide), (by decide)⟩)  (p_0 := by omega) (p_1 := by omega) (p_2 := by omega) (p_3 := by omega) (p_4 := by omega) (p_5 := by omega) (p_6 := by omega) (p_7 := by omega) (p_8 := by omega) (p_9 := a63)) (fun o V_q hq => ?_)
                            obtain ⟨G385, A386, r387, at2_388, fk2_389, op2_390, nd2_391, tk2_392, ec2_393, rfl, rfl, hW394, hF395, hQ396, b397, e398, e399, e400, e401, e402, e403, p404, p405, p406, p407, p408, p409, q410⟩ := hq
                            have hF411 := Fr_tr hF304 hF395 (Fr_sub (by decide)) (Fr_sub (by decide))
                            have hP412 := Pf_tr hP305 hQ396 (by omega)
                            have bat2_388 : (0 : Int) ≤ at2_388 ∧ at2_388 ≤ 3002 := e398 ▸ hW394.1 10
                            have bfk2_389 : (0 : Int) ≤ fk2_389 ∧ fk2_389 ≤ 6 := e399 ▸ hW394.1 16
                            have bop2_390 : (-2147483648 : Int) ≤ op2_390 ∧ op2_390 ≤ 2147483647 := e400 ▸ hW394.1 15
                            have bnd2_391 : (0 : Int) ≤ nd2_391 ∧ nd2_391 ≤ 6999 := e401 ▸ hW394.1 31
                            have ztk2_392 := tz_b tk2_392
                            have btk2_392 : (0 : Int) ≤ tk2_392 ∧ tk2_392 ≤ 5 := e402 ▸ hW394.1 11
                            refine .inr ⟨_, rfl, ?_⟩
                            rcases q410 with ⟨a413, a414, a415⟩ | ⟨a416, a417, a418, a419, a420, a421⟩
                            · have _q : True := trivial
                              refine jx_ld (pc_q := 172) (l_q := jSto1 L72 3 (.int (i32 (r387)))) (st_q := []) rfl rfl ?_
                              obtain ⟨L422, eL422⟩ : ∃ q, q = jSto1 L72 3 (.int (i32 (r387))) := ⟨_, rfl⟩
                              rw [← eL422]
                              have gL422_0 : jGet L422 0 = some (.ref 66) := eL422 ▸ jg_ne (by decide) gL72_0 rfl
                              have gL422_1 : jGet L422 1 = some (.int (i32 (pa))) := eL422 ▸ jg_ne (by decide) gL72_1 rfl
                              have gL422_2 : jGet L422 2 = some (.int (i32 (kp))) := eL422 ▸ jg_ne (by decide) gL72_2 rfl
                              have gL422_4 : jGet L422 4 = some (.int (i32 (G 12))) := eL422 ▸ jg_ne (by decide) gL72_4 rfl
                              have gL422_5 : jGet L422 5 = some (.int (i32 (r48))) := eL422 ▸ jg_ne (by decide) gL72_5 rfl
                              have gL422_3 : jGet L422 3 = some (.int (i32 (r387))) := eL422 ▸ jg_eq
                              refine jx_ld (pc_q := 173) (l_q := L422) (st_q := [.ref 66]) rfl (jl_aloadn gL422_0) ?_
                              refine jx_ar (pc_q := 175) (st_q := [.int (i32 (7)), .ref 66]) rfl rfl rfl rfl ?_
                              refine jx_ld (pc_q := 176) (l_q := L422) (st_q := [.int (i32 (r387)), .int (i32 (7)), .ref 66]) rfl (jl_iloadn gL422_3) ?_
                              refine jx_ld (pc_q := 177) (l_q := L422) (st_q := [.int (i32 (pa)), .int (i32 (r387)), .int (i32 (7)), .ref 66]) rfl (jl_iloadn gL422_1) ?_
                              refine jx_ar (pc_q := 178) (st_q := [.int (i32 (0)), .int (i32 (pa)), .int (i32 (r387)), .int (i32 (7)), .ref 66]) rfl rfl rfl rfl ?_
                              refine jx_ar (pc_q := 179) (st_q := [.int (i32 (0)), .int (i32 (0)), .int (i32 (pa)), .int (i32 (r387)), .int (i32 (7)), .ref 66]) rfl rfl rfl rfl ?_
                              refine jx_vr (pc_q := 182) (as := [.int (i32 (7)), .int (i32 (r387)), .int (i32 (pa)), .int (i32 (0)), .int (i32 (0))]) (st := []) rfl rfl rfl rfl ⟨rfl, rfl, Nat.le_of_ble_eq_true rfl⟩ rfl rfl (c_node_o (dd := d) (hd := by omega) (hW := hW394) (kind := 7) (a := r387) (b := pa) (c := 0) (e := 0) (nd := nd2_391) (e_nd := show G385 31 = nd2_391 from (e401)) (ec := ec2_393) (e_ec := show ecn A386 (G385 31) = ec2_393 from e403) (sy := sy) (e_sy := show G385 19 = sy from ((hF395.1 19 rfl).trans ((hF297.1 19 rfl).trans ((hF51.1 19 rfl).trans (e_sy)))))  (h_kind := ⟨(by decide), (by decide)⟩) (h_a := ⟨(Int.le_trans (by decide : (-2147483648 : Int) ≤ -2147483648) b397.1), (Int.le_trans b397.2 (by decide : (2147483647 : Int) ≤ 2147483647))⟩) (h_b := ⟨(Int.le_trans (by decide : (-2147483648 : Int) ≤ -2147483648) h_pa.1), (Int.le_trans h_pa.2 (by decide : (2147483647 : Int) ≤ 2147483647))⟩) (h_c := ⟨(by decide), (by decide)⟩) (h_e := ⟨(by decide), (by decide)⟩)  (p_0 := by omega) (p_1 := by omega) (p_2 := by omega)) (fun o V_q hq => ?_)
                              obtain ⟨G423, A424, nd2_425, ec2_426, rfl, rfl, hW427, hF428, hQ429, e430, e431, p432, p433, p434, p435, -⟩ := hq
                              have hF437 := Fr_tr hF411 hF428 (Fr_sub (by decide)) (Fr_sub (by decide))
                              have hP438 := Pf_tr hP412 hQ429 (by omega)
                              have bnd2_425 : (0 : Int) ≤ nd2_425 ∧ nd2_425 ≤ 6999 := e430 ▸ hW427.1 31
                              refine .inr ⟨_, rfl, ?_⟩
                              refine jx_rt (v := some (.int (i32 (nd2_391)))) rfl rfl rfl rfl rfl rfl ?_
                              have z439 := tz_f (tk2_392)
                              exact ⟨_, _, _, at2_388, fk2_389, op2_390, nd2_425, tk2_392, ec2_426, rfl, rfl, hW427, hF437, hP438, by omega, ((hF428.1 10 rfl).trans (e398)), ((hF428.1 16 rfl).trans (e399)), ((hF428.1 15 rfl).trans (e400)), (e430), ((hF428.1 11 rfl).trans (e402)), e431, by omega, by omega, by omega, by omega, by omega, by omega, by first | exact Or.inl (⟨by omega, by omega, by omega⟩)⟩
                            · have _q : True := trivial
                              refine jx_ld (pc_q := 172) (l_q := jSto1 L72 3 (.int (i32 (r387)))) (st_q := []) rfl rfl ?_
                              obtain ⟨L440, eL440⟩ : ∃ q, q = jSto1 L72 3 (.int (i32 (r387))) := ⟨_, rfl⟩
                              rw [← eL440]
                              have gL440_0 : jGet L440 0 = some (.ref 66) := eL440 ▸ jg_ne (by decide) gL72_0 rfl
                              have gL440_1 : jGet L440 1 = some (.int (i32 (pa))) := eL440 ▸ jg_ne (by decide) gL72_1 rfl
                              have gL440_2 : jGet L440 2 = some (.int (i32 (kp))) := eL440 ▸ jg_ne (by decide) gL72_2 rfl
                              have gL440_4 : jGet L440 4 = some (.int (i32 (G 12))) := eL440 ▸ jg_ne (by decide) gL72_4 rfl
                              have gL440_5 : jGet L440 5 = some (.int (i32 (r48))) := eL440 ▸ jg_ne (by decide) gL72_5 rfl
                              have gL440_3 : jGet L440 3 = some (.int (i32 (r387))) := eL440 ▸ jg_eq
                              refine jx_ld (pc_q := 173) (l_q := L440) (st_q := [.ref 66]) rfl (jl_aloadn gL440_0) ?_
                              refine jx_ar (pc_q := 175) (st_q := [.int (i32 (7)), .ref 66]) rfl rfl rfl rfl ?_
                              refine jx_ld (pc_q := 176) (l_q := L440) (st_q := [.int (i32 (r387)), .int (i32 (7)), .ref 66]) rfl (jl_iloadn gL440_3) ?_
                              refine jx_ld (pc_q := 177) (l_q := L440) (st_q := [.int (i32 (pa)), .int (i32 (r387)), .int (i32 (7)), .ref 66]) rfl (jl_iloadn gL440_1) ?_
                              refine jx_ar (pc_q := 178) (st_q := [.int (i32 (0)), .int (i32 (pa)), .int (i32 (r387)), .int (i32 (7)), .ref 66]) rfl rfl rfl rfl ?_
                              refine jx_ar (pc_q := 179) (st_q := [.int (i32 (0)), .int (i32 (0)), .int (i32 (pa)), .int (i32 (r387)), .int (i32 (7)), .ref 66]) rfl rfl rfl rfl ?_
                              refine jx_vr (pc_q := 182) (as := [.int (i32 (7)), .int (i32 (r387)), .int (i32 (pa)), .int (i32 (0)), .int (i32 (0))]) (st := []) rfl rfl rfl rfl ⟨rfl, rfl, Nat.le_of_ble_eq_true rfl⟩ rfl rfl (c_node_o (dd := d) (hd := by omega) (hW := hW394) (kind := 7) (a := r387) (b := pa) (c := 0) (e := 0) (nd := nd2_391) (e_nd := show G385 31 = nd2_391 from (e401)) (ec := ec2_393) (e_ec := show ecn A386 (G385 31) = ec2_393 from e403) (sy := sy) (e_sy := show G385 19 = sy from ((hF395.1 19 rfl).trans ((hF297.1 19 rfl).trans ((hF51.1 19 rfl).trans (e_sy)))))  (h_kind := ⟨(by decide), (by decide)⟩) (h_a := ⟨(Int.le_trans (by decide : (-2147483648 : Int) ≤ -2147483648) b397.1), (Int.le_trans b397.2 (by decide : (2147483647 : Int) ≤ 2147483647))⟩) (h_b := ⟨(Int.le_trans (by decide : (-2147483648 : Int) ≤ -2147483648) h_pa.1), (Int.le_trans h_pa.2 (by decide : (2147483647 : Int) ≤ 2147483647))⟩) (h_c := ⟨(by decide), (by decide)⟩) (h_e := ⟨(by decide), (by decide)⟩)  (p_0 := by omega) (p_1 := by omega) (p_2 := by omega)) (fun o V_q hq => ?_)
                              obtain ⟨G441, A442, nd2_443, ec2_444, rfl, rfl, hW445, hF446, hQ447, e448, e449, p450, p451, p452, p453, -⟩ := hq
                              have hF455 := Fr_tr hF411 hF446 (Fr_sub (by decide)) (Fr_sub (by decide))
                              have hP456 := Pf_tr hP412 hQ447 (by omega)
                              have sf457 : wR A442 Vs sb (20) (1) (r387) (nd) (nd2_391) := wR_ag (by omega) (Sg_fr hF446 (by decide)) (Ag_pf hQ447 (by omega)) a419
                              have sf458 : NdM A442 (nd) (nd2_391) (sy) := NdM_pf hQ447 (by omega) (by omega) a421
                              have bnd2_443 : (0 : Int) ≤ nd2_443 ∧ nd2_443 ≤ 6999 := e448 ▸ hW445.1 31
                              refine .inr ⟨_, rfl, ?_⟩
                              refine jx_rt (v := some (.int (i32 (nd2_391)))) rfl rfl rfl rfl rfl rfl ?_
                              have z459 := tz_f (tk2_392)
                              exact ⟨_, _, _, at2_388, fk2_389, op2_390, nd2_443, tk2_392, ec2_444, rfl, rfl, hW445, hF455, hP456, by omega, ((hF446.1 10 rfl).trans (e398)), ((hF446.1 16 rfl).trans (e399)), ((hF446.1 15 rfl).trans (e400)), (e448), ((hF446.1 11 rfl).trans (e402)), e449, by omega, by omega, by omega, by omega, by omega, by omega, by first | exact Or.inr ((⟨by omega, by omega, by omega, by omega, by omega, (wA_mk p452 (by omega) (by omega) (by omega) (by omega) (.inr (.inr (.inl ⟨((show A442 7 (pa).toNat = kp from (congrFun ((hF446.2 7 rfl).trans ((hF395.2 7 rfl).trans ((hF297.2 7 rfl).trans (hF51.2 7 rfl)))) _).trans (e_kp)).trans (by omega : kp = 8)), (wR_mono (by omega) (by omega) (by omega) sf457)⟩)))), (NX_nd p452), by omega, (NdM_w (NdM_app (sy := sy) sf458 p453 (by omega) (by omega) (by omega)) (by omega) (by omega) (by omega))⟩))⟩
                        · have _q := h308
                          refine jx_ld (pc_q := 139) (l_q := L72) (st_q := [.ref 66]) rfl (jl_aloadn gL72_0) ?_
                          refine jx_ar (pc_q := 140) (st_q := [.int (i32 (2)), .ref 66]) rfl rfl rfl rfl ?_
                          refine jx_ld (pc_q := 142) (l_q := L72) (st_q := [.int (i32 (r48)), .int (i32 (2)), .ref 66]) rfl (jl_iload gL72_5) ?_
                          refine jx_ar (pc_q := 143) (st_q := [.int (i32 (0)), .int (i32 (r48)), .int (i32 (2)), .ref 66]) rfl rfl rfl rfl ?_
                          refine jx_ar (pc_q := 144) (st_q := [.int (i32 (0)), .int (i32 (0)), .int (i32 (r48)), .int (i32 (2)), .ref 66]) rfl rfl rfl rfl ?_
                          refine jx_ar (pc_q := 145) (st_q := [.int (i32 (0)), .int (i32 (0)), .int (i32 (0)), .int (i32 (r48)), .int (i32 (2)), .ref 66]) rfl rfl rfl rfl ?_
                          refine jx_vr (pc_q := 148) (as := [.int (i32 (2)), .int (i32 (r48)), .int (i32 (0)), .int (i32 (0)), .int (i32 (0))]) (st := []) rfl rfl rfl rfl ⟨rfl, rfl, Nat.le_of_ble_eq_true rfl⟩ rfl rfl (c_node_o (dd := d) (hd := by omega) (hW := hW296) (kind := 2) (a := r48) (b := 0) (c := 0) (e := 0) (nd := nd) (e_nd := show G292 31 = nd from ((hF297.1 31 rfl).trans ((hF51.1 31 rfl).trans (e_nd)))) (ec := ec) (e_ec := show ecn A293 (G292 31) = ec from ec306) (sy := sy) (e_sy := show G292 19 = sy from ((hF297.1 19 rfl).trans ((hF51.1 19 rfl).trans (e_sy))))  (h_kind := ⟨(by decide), (by decide)⟩) (h_a := ⟨(Int.le_trans (by decide : (-2147483648 : Int) ≤ -2147483648) b52.1), (Int.le_trans b52.2 (by decide : (2147483647 : Int) ≤ 2147483647))⟩) (h_b := ⟨(by decide), (by decide)⟩) (h_c := ⟨(by decide), (by decide)⟩) (h_e := ⟨(by decide), (by decide)⟩)  (p_0 := by omega) (p_1 := by omega) (p_2 := by omega)) (fun o V_q hq => ?_)
                          obtain ⟨G460, A461, nd2_462, ec2_463, rfl, rfl, hW464, hF465, hQ466, e467, e468, p469, p470, p471, p472, -⟩ := hq
                          have hF474 := Fr_tr hF304 hF465 (Fr_sub (by decide)) (Fr_sub (by decide))
                          have hP475 := Pf_tr hP305 hQ466 (by omega)
                          have bnd2_462 : (0 : Int) ≤ nd2_462 ∧ nd2_462 ≤ 6999 := e467 ▸ hW464.1 31
                          refine .inr ⟨_, rfl, ?_⟩
                          refine jx_ld (pc_q := 149) (l_q := jSto1 L72 3 (.int (i32 (nd)))) (st_q := []) rfl rfl ?_
                          obtain ⟨L476, eL476⟩ : ∃ q, q = jSto1 L72 3 (.int (i32 (nd))) := ⟨_, rfl⟩
                          rw [← eL476]
                          have gL476_0 : jGet L476 0 = some (.ref 66) := eL476 ▸ jg_ne (by decide) gL72_0 rfl
                          have gL476_1 : jGet L476 1 = some (.int (i32 (pa))) := eL476 ▸ jg_ne (by decide) gL72_1 rfl
                          have gL476_2 : jGet L476 2 = some (.int (i32 (kp))) := eL476 ▸ jg_ne (by decide) gL72_2 rfl
                          have gL476_4 : jGet L476 4 = some (.int (i32 (G 12))) := eL476 ▸ jg_ne (by decide) gL72_4 rfl
                          have gL476_5 : jGet L476 5 = some (.int (i32 (r48))) := eL476 ▸ jg_ne (by decide) gL72_5 rfl
                          have gL476_3 : jGet L476 3 = some (.int (i32 (nd))) := eL476 ▸ jg_eq
                          refine jx_go (tg := 172) rfl rfl ?_
                          refine jx_ld (pc_q := 173) (l_q := L476) (st_q := [.ref 66]) rfl (jl_aloadn gL476_0) ?_
                          refine jx_ar (pc_q := 175) (st_q := [.int (i32 (7)), .ref 66]) rfl rfl rfl rfl ?_
                          refine jx_ld (pc_q := 176) (l_q := L476) (st_q := [.int (i32 (nd)), .int (i32 (7)), .ref 66]) rfl (jl_iloadn gL476_3) ?_
                          refine jx_ld (pc_q := 177) (l_q := L476) (st_q := [.int (i32 (pa)), .int (i32 (nd)), .int (i32 (7)), .ref 66]) rfl (jl_iloadn gL476_1) ?_
                          refine jx_ar (pc_q := 178) (st_q := [.int (i32 (0)), .int (i32 (pa)), .int (i32 (nd)), .int (i32 (7)), .ref 66]) rfl rfl rfl rfl ?_
                          refine jx_ar (pc_q := 179) (st_q := [.int (i32 (0)), .int (i32 (0)), .int (i32 (pa)), .int (i32 (nd)), .int (i32 (7)), .ref 66]) rfl rfl rfl rfl ?_
                          refine jx_vr (pc_q := 182) (as := [.int (i32 (7)), .int (i32 (nd)), .int (i32 (pa)), .int (i32 (0)), .int (i32 (0))]) (st := []) rfl rfl rfl rfl ⟨rfl, rfl, Nat.le_of_ble_eq_true rfl⟩ rfl rfl (c_node_o (dd := d) (hd := by omega) (hW := hW464) (kind := 7) (a := nd) (b := pa) (c := 0) (e := 0) (nd := nd2_462) (e_nd := show G460 31 = nd2_462 from (e467)) (ec := ec2_463) (e_ec := show ecn A461 (G460 31) = ec2_463 from e468) (sy := sy) (e_sy := show G460 19 = sy from ((hF465.1 19 rfl).trans ((hF297.1 19 rfl).trans ((hF51.1 19 rfl).trans (e_sy)))))  (h_kind := ⟨(by decide), (by decide)⟩) (h_a := ⟨(Int.le_trans (by decide : (-2147483648 : Int) ≤ 0) b_nd.1), (Int.le_trans b_nd.2 (by decide : (6999 : Int) ≤ 2147483647))⟩) (h_b := ⟨(Int.le_trans (by decide : (-2147483648 : Int) ≤ -2147483648) h_pa.1), (Int.le_trans h_pa.2 (by decide : (2147483647 : Int) ≤ 2147483647))⟩) (h_c := ⟨(by decide), (by decide)⟩) (h_e := ⟨(by decide), (by decide)⟩)  (p_0 := by omega) (p_1 := by omega) (p_2 := by omega)) (fun o V_q hq => ?_)
                          obtain ⟨G477, A478, nd2_479, ec2_480, rfl, rfl, hW481, hF482, hQ483, e484, e485, p486, p487, p488, p489, -⟩ := hq
                          have hF491 := Fr_tr hF474 hF482 (Fr_sub (by decide)) (Fr_sub (by decide))
                          have hP492 := Pf_tr hP475 hQ483 (by omega)
                          have sf493 : ND A478 (nd) (2) (r48) (0) (0) (0) (0) (0) := ND_ag (by omega) (Ag_pf hQ483 (by omega)) p471
                          have sf494 : NdM A478 (nd) (nd + 1) (sy) := NdM_pf hQ483 (by omega) (by omega) p472
                          have bnd2_479 : (0 : Int) ≤ nd2_479 ∧ nd2_479 ≤ 6999 := e484 ▸ hW481.1 31
                          refine .inr ⟨_, rfl, ?_⟩
                          refine jx_rt (v := some (.int (i32 (nd2_462)))) rfl rfl rfl rfl rfl rfl ?_
                          have z495 := tz_f (tk2_295)
                          exact ⟨_, _, _, at2_294, fk2_49, op0, nd2_479, tk2_295, ec2_480, rfl, rfl, hW481, hF491, hP492, by omega, ((hF482.1 10 rfl).trans ((hF465.1 10 rfl).trans (e298))), ((hF482.1 16 rfl).trans ((hF465.1 16 rfl).trans ((hF297.1 16 rfl).trans (e53)))), ((hF482.1 15 rfl).trans ((hF465.1 15 rfl).trans ((hF297.1 15 rfl).trans ((hF51.1 15 rfl).trans (e_op0))))), (e484), ((hF482.1 11 rfl).trans ((hF465.1 11 rfl).trans (e299))), e485, by omega, by omega, by omega, by omega, by omega, by omega, by first | exact Or.inr ((⟨by omega, by omega, by omega, by omega, by omega, (wA_mk p488 (by omega) (by omega) (by omega) (by omega) (.inr (.inr (.inr ⟨((show A478 7 (pa).toNat = kp from (congrFun ((hF482.2 7 rfl).trans ((hF465.2 7 rfl).trans ((hF297.2 7 rfl).trans (hF51.2 7 rfl)))) _).trans (e_kp)).trans (by omega : kp = 7)), wW_mk sf493 (by omega) (by omega) a63 (kq (P := kArr) (show A478 7 (r48).toNat = A 7 (r48).toNat from (congrFun ((hF482.2 7 rfl).trans ((hF465.2 7 rfl).trans ((hF297.2 7 rfl).trans (hF51.2 7 rfl)))) _)) a288) ((show A478 8 (r48).toNat = A 8 (r48).toNat from (congrFun ((hF482.2 8 rfl).trans ((hF465.2 8 rfl).trans ((hF297.2 8 rfl).trans (hF51.2 8 rfl)))) _)).trans ((by omega : A 8 (r48).toNat = zp).trans (show A478 8 (pa).toNat = zp from (congrFun ((hF482.2 8 rfl).trans ((hF465.2 8 rfl).trans ((hF297.2 8 rfl).trans (hF51.2 8 rfl)))) _).trans (e_zp)).symm))⟩)))), (NX_nd p488), by omega, (NdM_w (NdM_app (sy := sy) sf494 p489 (by omega) (by omega) (by omega)) (by omega) (by omega) (by omega))⟩))⟩
                      · have _q := h291
                        refine jx_ld (pc_q := 120) (l_q := L72) (st_q := [.ref 66]) rfl (jl_aloadn gL72_0) ?_
                        refine jx_ar (pc_q := 121) (st_q := [.int (i32 (4)), .ref 66]) rfl rfl rfl rfl ?_
                        refine jx_ld (pc_q := 123) (l_q := L72) (st_q := [.int (i32 (G 12)), .int (i32 (4)), .ref 66]) rfl (jl_iload gL72_4) ?_
                        refine jx_vr (pc_q := 126) (as := [.int (i32 (4)), .int (i32 (G 12))]) (st := []) rfl rfl rfl rfl ⟨rfl, rfl, Nat.le_of_ble_eq_true rfl⟩ rfl rfl (c_fail (dd := d) (hd := by omega) (hW := hW50) (kind := 4) (place := G 12) (fk := fk2_49) (e_fk := show G46 16 = fk2_49 from (e53))  (h_kind := ⟨(by decide), (by decide)⟩) (h_place := ⟨(Int.le_trans (by decide : (-2147483648 : Int) ≤ -3000) b44.1), (Int.le_trans b44.2 (by decide : (3002 : Int) ≤ 2147483647))⟩)  (p_0 := by omega) (p_1 := by omega)) (fun o V_q hq => ?_)
                        obtain ⟨G496, A497, fk2_498, rfl, rfl, hW499, hF500, e501, p502, -⟩ := hq
                        have hF504 := Fr_tr hF55 hF500 (Fr_sub (by decide)) (Fr_sub (by decide))
                        have hP505 := Pf_f hP56 hF500 (by decide)
                        have ec506 : ecn A497 (G496 31) = ec := (ecn_f (hF500.2 15 rfl) (hF500.1 31 rfl)).trans ec57
                        have bfk2_498 : (0 : Int) ≤ fk2_498 ∧ fk2_498 ≤ 6 := e501 ▸ hW499.1 16
                        refine .inl ⟨rfl, ?_⟩
                        refine jx_ar (pc_q := 127) (st_q := [.int (i32 (0))]) rfl rfl rfl rfl ?_
                        refine jx_rt (v := some (.int (i32 (0)))) rfl rfl rfl rfl rfl rfl ?_
                        have z507 := tz_f (tk0)
                        exact ⟨_, _, _, at0, fk2_498, op0, nd, tk0, ec, rfl, rfl, hW499, hF504, hP505, by omega, ((hF500.1 10 rfl).trans ((hF51.1 10 rfl).trans (e_at0))), (e501), ((hF500.1 15 rfl).trans ((hF51.1 15 rfl).trans (e_op0))), ((hF500.1 31 rfl).trans ((hF51.1 31 rfl).trans (e_nd))), ((hF500.1 11 rfl).trans ((hF51.1 11 rfl).trans (e_tk0))), ec506, by omega, by omega, by omega, by omega, by omega, by omega, by first | exact Or.inl (⟨by omega, by omega, by omega⟩)⟩
                  · have _q : True := trivial
                    refine jx_if_eq (pc_q := 103) (tg := 119) rfl rfl rfl (by decide) (by decide) (fun h508 => ?_) (fun h508 => ?_)
                    · have _q := h508
                      refine jx_ld (pc_q := 120) (l_q := L72) (st_q := [.ref 66]) rfl (jl_aloadn gL72_0) ?_
                      refine jx_ar (pc_q := 121) (st_q := [.int (i32 (4)), .ref 66]) rfl rfl rfl rfl ?_
                      refine jx_ld (pc_q := 123) (l_q := L72) (st_q := [.int (i32 (G 12)), .int (i32 (4)), .ref 66]) rfl (jl_iload gL72_4) ?_
                      refine jx_vr (pc_q := 126) (as := [.int (i32 (4)), .int (i32 (G 12))]) (st := []) rfl rfl rfl rfl ⟨rfl, rfl, Nat.le_of_ble_eq_true rfl⟩ rfl rfl (c_fail (dd := d) (hd := by omega) (hW := hW50) (kind := 4) (place := G 12) (fk := fk2_49) (e_fk := show G46 16 = fk2_49 from (e53))  (h_kind := ⟨(by decide), (by decide)⟩) (h_place := ⟨(Int.le_trans (by decide : (-2147483648 : Int) ≤ -3000) b44.1), (Int.le_trans b44.2 (by decide : (3002 : Int) ≤ 2147483647))⟩)  (p_0 := by omega) (p_1 := by omega)) (fun o V_q hq => ?_)
                      obtain ⟨G509, A510, fk2_511, rfl, rfl, hW512, hF513, e514, p515, -⟩ := hq
                      have hF517 := Fr_tr hF55 hF513 (Fr_sub (by decide)) (Fr_sub (by decide))
                      have hP518 := Pf_f hP56 hF513 (by decide)
                      have ec519 : ecn A510 (G509 31) = ec := (ecn_f (hF513.2 15 rfl) (hF513.1 31 rfl)).trans ec57
                      have bfk2_511 : (0 : Int) ≤ fk2_511 ∧ fk2_511 ≤ 6 := e514 ▸ hW512.1 16
                      refine .inl ⟨rfl, ?_⟩
                      refine jx_ar (pc_q := 127) (st_q := [.int (i32 (0))]) rfl rfl rfl rfl ?_
                      refine jx_rt (v := some (.int (i32 (0)))) rfl rfl rfl rfl rfl rfl ?_
                      have z520 := tz_f (tk0)
                      exact ⟨_, _, _, at0, fk2_511, op0, nd, tk0, ec, rfl, rfl, hW512, hF517, hP518, by omega, ((hF513.1 10 rfl).trans ((hF51.1 10 rfl).trans (e_at0))), (e514), ((hF513.1 15 rfl).trans ((hF51.1 15 rfl).trans (e_op0))), ((hF513.1 31 rfl).trans ((hF51.1 31 rfl).trans (e_nd))), ((hF513.1 11 rfl).trans ((hF51.1 11 rfl).trans (e_tk0))), ec519, by omega, by omega, by omega, by omega, by omega, by omega, by first | exact Or.inl (⟨by omega, by omega, by omega⟩)⟩
                    · have _q := h508
                      exact absurd h508 (by omega)
              · have _q := h78
                exact absurd h78 (by omega)
        · have _q := h43
          refine jx_ld (pc_q := 52) (l_q := L2) (st_q := [.ref 66]) rfl (jl_aloadn gL2_0) ?_
          refine jx_ar (pc_q := 53) (st_q := [.int (i32 (4)), .ref 66]) rfl rfl rfl rfl ?_
          refine jx_ld (pc_q := 54) (l_q := L2) (st_q := [.ref 66, .int (i32 (4)), .ref 66]) rfl (jl_aloadn gL2_0) ?_
          have b521 : (-3000 : Int) ≤ G 12 ∧ G 12 ≤ 3002 := hW.1 12
          refine jr_get (pc_q := 57) (i := 12) (v := .int (i32 (G 12))) rfl rfl (by decide) rfl rfl ?_
          refine jx_vr (pc_q := 60) (as := [.int (i32 (4)), .int (i32 (G 12))]) (st := []) rfl rfl rfl rfl ⟨rfl, rfl, Nat.le_of_ble_eq_true rfl⟩ rfl rfl (c_fail (dd := d) (hd := by omega) (hW := hW) (kind := 4) (place := G 12) (fk := fk) (e_fk := show G 16 = fk from (e_fk))  (h_kind := ⟨(by decide), (by decide)⟩) (h_place := ⟨(Int.le_trans (by decide : (-2147483648 : Int) ≤ -3000) b521.1), (Int.le_trans b521.2 (by decide : (3002 : Int) ≤ 2147483647))⟩)  (p_0 := by omega) (p_1 := by omega)) (fun o V_q hq => ?_)
          obtain ⟨G522, A523, fk2_524, rfl, rfl, hW525, hF526, e527, p528, -⟩ := hq
          have hF530 := Fr_tr hF0 hF526 (Fr_sub (by decide)) (Fr_sub (by decide))
          have hP531 := Pf_f hP0 hF526 (by decide)
          have ec532 : ecn A523 (G522 31) = ec := (ecn_f (hF526.2 15 rfl) (hF526.1 31 rfl)).trans e_ec
          have bfk2_524 : (0 : Int) ≤ fk2_524 ∧ fk2_524 ≤ 6 := e527 ▸ hW525.1 16
          refine .inl ⟨rfl, ?_⟩
          refine jx_go (tg := 172) rfl rfl ?_
          refine jx_ld (pc_q := 173) (l_q := L2) (st_q := [.ref 66]) rfl (jl_aloadn gL2_0) ?_
          refine jx_ar (pc_q := 175) (st_q := [.int (i32 (7)), .ref 66]) rfl rfl rfl rfl ?_
          refine jx_ld (pc_q := 176) (l_q := L2) (st_q := [.int (i32 (0)), .int (i32 (7)), .ref 66]) rfl (jl_iloadn gL2_3) ?_
          refine jx_ld (pc_q := 177) (l_q := L2) (st_q := [.int (i32 (pa)), .int (i32 (0)), .int (i32 (7)), .ref 66]) rfl (jl_iloadn gL2_1) ?_
          refine jx_ar (pc_q := 178) (st_q := [.int (i32 (0)), .int (i32 (pa)), .int (i32 (0)), .int (i32 (7)), .ref 66]) rfl rfl rfl rfl ?_
          refine jx_ar (pc_q := 179) (st_q := [.int (i32 (0)), .int (i32 (0)), .int (i32 (pa)), .int (i32 (0)), .int (i32 (7)), .ref 66]) rfl rfl rfl rfl ?_
          refine jx_vr (pc_q := 182) (as := [.int (i32 (7)), .int (i32 (0)), .int (i32 (pa)), .int (i32 (0)), .int (i32 (0))]) (st := []) rfl rfl rfl rfl ⟨rfl, rfl, Nat.le_of_ble_eq_true rfl⟩ rfl rfl (c_node_o (dd := d) (hd := by omega) (hW := hW525) (kind := 7) (a := 0) (b := pa) (c := 0) (e := 0) (nd := nd) (e_nd := show G522 31 = nd from ((hF526.1 31 rfl).trans (e_nd))) (ec := ec) (e_ec := show ecn A523 (G522 31) = ec from ec532) (sy := sy) (e_sy := show G522 19 = sy from ((hF526.1 19 rfl).trans (e_sy)))  (h_kind := ⟨(by decide), (by decide)⟩) (h_a := ⟨(by decide), (by decide)⟩) (h_b := ⟨(Int.le_trans (by decide : (-2147483648 : Int) ≤ -2147483648) h_pa.1), (Int.le_trans h_pa.2 (by decide : (2147483647 : Int) ≤ 2147483647))⟩) (h_c := ⟨(by decide), (by decide)⟩) (h_e := ⟨(by decide), (by decide)⟩)  (p_0 := by omega) (p_1 := by omega) (p_2 := by omega)) (fun o V_q hq => ?_)
          obtain ⟨G533, A534, nd2_535, ec2_536, rfl, rfl, hW537, hF538, hQ539, e540, e541, p542, p543, p544, p545, -⟩ := hq
          have hF547 := Fr_tr hF530 hF538 (Fr_sub (by decide)) (Fr_sub (by decide))
          have hP548 := Pf_tr hP531 hQ539 (by omega)
          have bnd2_535 : (0 : Int) ≤ nd2_535 ∧ nd2_535 ≤ 6999 := e540 ▸ hW537.1 31
          refine .inr ⟨_, rfl, ?_⟩
          refine jx_rt (v := some (.int (i32 (nd)))) rfl rfl rfl rfl rfl rfl ?_
          have z549 := tz_f (tk0)
          exact ⟨_, _, _, at0, fk2_524, op0, nd2_535, tk0, ec2_536, rfl, rfl, hW537, hF547, hP548, by omega, ((hF538.1 10 rfl).trans ((hF526.1 10 rfl).trans (e_at0))), ((hF538.1 16 rfl).trans (e527)), ((hF538.1 15 rfl).trans ((hF526.1 15 rfl).trans (e_op0))), (e540), ((hF538.1 11 rfl).trans ((hF526.1 11 rfl).trans (e_tk0))), e541, by omega, by omega, by omega, by omega, by omega, by omega, by first | exact Or.inl (⟨by omega, by omega, by omega⟩)⟩
      · have _q := h41
        refine jx_ld (pc_q := 36) (l_q := L2) (st_q := [.ref 66]) rfl (jl_aloadn gL2_0) ?_
        refine jx_vr (pc_q := 39) (as := []) (st := []) rfl rfl rfl rfl ⟨rfl, rfl, Nat.le_of_ble_eq_true rfl⟩ rfl rfl (REw_all X 9 (dd := d) (hd := by omega) (hW := hW)  (ln := ln) (e_ln := show G 9 = ln from (e_ln)) (le := le) (e_le := show A 4 (ln).toNat = le from (e_le)) (at0 := at0) (e_at0 := show G 10 = at0 from (e_at0)) (fk := fk) (e_fk := show G 16 = fk from (e_fk)) (op0 := op0) (e_op0 := show G 15 = op0 from (e_op0)) (nd := nd) (e_nd := show G 31 = nd from (e_nd)) (tk0 := tk0) (e_tk0 := show G 11 = tk0 from (e_tk0)) (ec := ec) (e_ec := show ecn A (G 31) = ec from e_ec) (sy := sy) (e_sy := show G 19 = sy from (e_sy)) (i_SV := (SV_ext (rfl) (rfl) i_SV))   (p_0 := by omega) (p_1 := by omega) (p_2 := by omega) (p_3 := by omega) (p_4 := by omega) (p_5 := by omega)) (fun o V_q hq => ?_)
        obtain ⟨G550, A551, r552, at2_553, fk2_554, op2_555, nd2_556, tk2_557, ec2_558, rfl, rfl, hW559, hF560, hQ561, b562, e563, e564, e565, e566, e567, e568, p569, p570, p571, p572, p573, p574, q575⟩ := hq
        have hF576 := Fr_tr hF0 hF560 (Fr_sub (by decide)) (Fr_sub (by decide))
        have hP577 := Pf_tr hP0 hQ561 (by omega)
        have bat2_553 : (0 : Int) ≤ at2_553 ∧ at2_553 ≤ 3002 := e563 ▸ hW559.1 10
        have bfk2_554 : (0 : Int) ≤ fk2_554 ∧ fk2_554 ≤ 6 := e564 ▸ hW559.1 16
        have bop2_555 : (-2147483648 : Int) ≤ op2_555 ∧ op2_555 ≤ 2147483647 := e565 ▸ hW559.1 15
        have bnd2_556 : (0 : Int) ≤ nd2_556 ∧ nd2_556 ≤ 6999 := e566 ▸ hW559.1 31
        have ztk2_557 := tz_b tk2_557
        have btk2_557 : (0 : Int) ≤ tk2_557 ∧ tk2_557 ≤ 5 := e567 ▸ hW559.1 11
        refine .inr ⟨_, rfl, ?_⟩
        rcases q575 with ⟨a578, a579, a580, a581, a582, a583⟩ | ⟨a584, a585, a586⟩ | ⟨a587, a588, a589, a590, a591, a592, a593, a594⟩
        · have _q : True := trivial
          exfalso
          omega
        · have _q : True := trivial
          refine jx_ld (pc_q := 40) (l_q := jSto1 L2 3 (.int (i32 (r552)))) (st_q := []) rfl rfl ?_
          obtain ⟨L595, eL595⟩ : ∃ q, q = jSto1 L2 3 (.int (i32 (r552))) := ⟨_, rfl⟩
          rw [← eL595]
          have gL595_0 : jGet L595 0 = some (.ref 66) := eL595 ▸ jg_ne (by decide) gL2_0 rfl
          have gL595_1 : jGet L595 1 = some (.int (i32 (pa))) := eL595 ▸ jg_ne (by decide) gL2_1 rfl
          have gL595_2 : jGet L595 2 = some (.int (i32 (kp))) := eL595 ▸ jg_ne (by decide) gL2_2 rfl
          have gL595_3 : jGet L595 3 = some (.int (i32 (r552))) := eL595 ▸ jg_eq
          refine jx_go (tg := 172) rfl rfl ?_
          refine jx_ld (pc_q := 173) (l_q := L595) (st_q := [.ref 66]) rfl (jl_aloadn gL595_0) ?_
          refine jx_ar (pc_q := 175) (st_q := [.int (i32 (7)), .ref 66]) rfl rfl rfl rfl ?_
          refine jx_ld (pc_q := 176) (l_q := L595) (st_q := [.int (i32 (r552)), .int (i32 (7)), .ref 66]) rfl (jl_iloadn gL595_3) ?_
          refine jx_ld (pc_q := 177) (l_q := L595) (st_q := [.int (i32 (pa)), .int (i32 (r552)), .int (i32 (7)), .ref 66]) rfl (jl_iloadn gL595_1) ?_
          refine jx_ar (pc_q := 178) (st_q := [.int (i32 (0)), .int (i32 (pa)), .int (i32 (r552)), .int (i32 (7)), .ref 66]) rfl rfl rfl rfl ?_
          refine jx_ar (pc_q := 179) (st_q := [.int (i32 (0)), .int (i32 (0)), .int (i32 (pa)), .int (i32 (r552)), .int (i32 (7)), .ref 66]) rfl rfl rfl rfl ?_
          refine jx_vr (pc_q := 182) (as := [.int (i32 (7)), .int (i32 (r552)), .int (i32 (pa)), .int (i32 (0)), .int (i32 (0))]) (st := []) rfl rfl rfl rfl ⟨rfl, rfl, Nat.le_of_ble_eq_true rfl⟩ rfl rfl (c_node_o (dd := d) (hd := by omega) (hW := hW559) (kind := 7) (a := r552) (b := pa) (c := 0) (e := 0) (nd := nd2_556) (e_nd := show G550 31 = nd2_556 from (e566)) (ec := ec2_558) (e_ec := show ecn A551 (G550 31) = ec2_558 from e568) (sy := sy) (e_sy := show G550 19 = sy from ((hF560.1 19 rfl).trans (e_sy)))  (h_kind := ⟨(by decide), (by decide)⟩) (h_a := ⟨(Int.le_trans (by decide : (-2147483648 : Int) ≤ -2147483648) b562.1), (Int.le_trans b562.2 (by decide : (2147483647 : Int) ≤ 2147483647))⟩) (h_b := ⟨(Int.le_trans (by decide : (-2147483648 : Int) ≤ -2147483648) h_pa.1), (Int.le_trans h_pa.2 (by decide : (2147483647 : Int) ≤ 2147483647))⟩) (h_c := ⟨(by decide), (by decide)⟩) (h_e := ⟨(by decide), (by decide)⟩)  (p_0 := by omega) (p_1 := by omega) (p_2 := by omega)) (fun o V_q hq => ?_)
          obtain ⟨G596, A597, nd2_598, ec2_599, rfl, rfl, hW600, hF601, hQ602, e603, e604, p605, p606, p607, p608, -⟩ := hq
          have hF610 := Fr_tr hF576 hF601 (Fr_sub (by decide)) (Fr_sub (by decide))
          have hP611 := Pf_tr hP577 hQ602 (by omega)
          have bnd2_598 : (0 : Int) ≤ nd2_598 ∧ nd2_598 ≤ 6999 := e603 ▸ hW600.1 31
          refine .inr ⟨_, rfl, ?_⟩
          refine jx_rt (v := some (.int (i32 (nd2_556)))) rfl rfl rfl rfl rfl rfl ?_
          have z612 := tz_f (tk2_557)
          exact ⟨_, _, _, at2_553, fk2_554, op2_555, nd2_598, tk2_557, ec2_599, rfl, rfl, hW600, hF610, hP611, by omega, ((hF601.1 10 rfl).trans (e563)), ((hF601.1 16 rfl).trans (e564)), ((hF601.1 15 rfl).trans (e565)), (e603), ((hF601.1 11 rfl).trans (e567)), e604, by omega, by omega, by omega, by omega, by omega, by omega, by first | exact Or.inl (⟨by omega, by omega, by omega⟩)⟩
        · have _q : True := trivial
          refine jx_ld (pc_q := 40) (l_q := jSto1 L2 3 (.int (i32 (r552)))) (st_q := []) rfl rfl ?_
          obtain ⟨L613, eL613⟩ : ∃ q, q = jSto1 L2 3 (.int (i32 (r552))) := ⟨_, rfl⟩
          rw [← eL613]
          have gL613_0 : jGet L613 0 = some (.ref 66) := eL613 ▸ jg_ne (by decide) gL2_0 rfl
          have gL613_1 : jGet L613 1 = some (.int (i32 (pa))) := eL613 ▸ jg_ne (by decide) gL2_1 rfl
          have gL613_2 : jGet L613 2 = some (.int (i32 (kp))) := eL613 ▸ jg_ne (by decide) gL2_2 rfl
          have gL613_3 : jGet L613 3 = some (.int (i32 (r552))) := eL613 ▸ jg_eq
          refine jx_go (tg := 172) rfl rfl ?_
          refine jx_ld (pc_q := 173) (l_q := L613) (st_q := [.ref 66]) rfl (jl_aloadn gL613_0) ?_
          refine jx_ar (pc_q := 175) (st_q := [.int (i32 (7)), .ref 66]) rfl rfl rfl rfl ?_
          refine jx_ld (pc_q := 176) (l_q := L613) (st_q := [.int (i32 (r552)), .int (i32 (7)), .ref 66]) rfl (jl_iloadn gL613_3) ?_
          refine jx_ld (pc_q := 177) (l_q := L613) (st_q := [.int (i32 (pa)), .int (i32 (r552)), .int (i32 (7)), .ref 66]) rfl (jl_iloadn gL613_1) ?_
          refine jx_ar (pc_q := 178) (st_q := [.int (i32 (0)), .int (i32 (pa)), .int (i32 (r552)), .int (i32 (7)), .ref 66]) rfl rfl rfl rfl ?_
          refine jx_ar (pc_q := 179) (st_q := [.int (i32 (0)), .int (i32 (0)), .int (i32 (pa)), .int (i32 (r552)), .int (i32 (7)), .ref 66]) rfl rfl rfl rfl ?_
          refine jx_vr (pc_q := 182) (as := [.int (i32 (7)), .int (i32 (r552)), .int (i32 (pa)), .int (i32 (0)), .int (i32 (0))]) (st := []) rfl rfl rfl rfl ⟨rfl, rfl, Nat.le_of_ble_eq_true rfl⟩ rfl rfl (c_node_o (dd := d) (hd := by omega) (hW := hW559) (kind := 7) (a := r552) (b := pa) (c := 0) (e := 0) (nd := nd2_556) (e_nd := show G550 31 = nd2_556 from (e566)) (ec := ec2_558) (e_ec := show ecn A551 (G550 31) = ec2_558 from e568) (sy := sy) (e_sy := show G550 19 = sy from ((hF560.1 19 rfl).trans (e_sy)))  (h_kind := ⟨(by decide), (by decide)⟩) (h_a := ⟨(Int.le_trans (by decide : (-2147483648 : Int) ≤ -2147483648) b562.1), (Int.le_trans b562.2 (by decide : (2147483647 : Int) ≤ 2147483647))⟩) (h_b := ⟨(Int.le_trans (by decide : (-2147483648 : Int) ≤ -2147483648) h_pa.1), (Int.le_trans h_pa.2 (by decide : (2147483647 : Int) ≤ 2147483647))⟩) (h_c := ⟨(by decide), (by decide)⟩) (h_e := ⟨(by decide), (by decide)⟩)  (p_0 := by omega) (p_1 := by omega) (p_2 := by omega)) (fun o V_q hq => ?_)
          obtain ⟨G614, A615, nd2_616, ec2_617, rfl, rfl, hW618, hF619, hQ620, e621, e622, p623, p624, p625, p626, -⟩ := hq
          have hF628 := Fr_tr hF576 hF619 (Fr_sub (by decide)) (Fr_sub (by decide))
          have hP629 := Pf_tr hP577 hQ620 (by omega)
          have sf630 : wE A615 Vs sb (2 * 9 + 2) (r552) (nd) (nd2_556) := wE_ag (by omega) (Sg_fr hF619 (by decide)) (Ag_pf hQ620 (by omega)) a590
          have sf631 : NdM A615 (nd) (nd2_556) (sy) := NdM_pf hQ620 (by omega) (by omega) a592
          have bnd2_616 : (0 : Int) ≤ nd2_616 ∧ nd2_616 ≤ 6999 := e621 ▸ hW618.1 31
          refine .inr ⟨_, rfl, ?_⟩
          refine jx_rt (v := some (.int (i32 (nd2_556)))) rfl rfl rfl rfl rfl rfl ?_
          have z632 := tz_f (tk2_557)
          exact ⟨_, _, _, at2_553, fk2_554, op2_555, nd2_616, tk2_557, ec2_617, rfl, rfl, hW618, hF628, hP629, by omega, ((hF619.1 10 rfl).trans (e563)), ((hF619.1 16 rfl).trans (e564)), ((hF619.1 15 rfl).trans (e565)), (e621), ((hF619.1 11 rfl).trans (e567)), e622, by omega, by omega, by omega, by omega, by omega, by omega, by first | exact Or.inr ((⟨by omega, by omega, by omega, by omega, by omega, (wA_mk p625 (by omega) (by omega) (by omega) (by omega) (.inl ⟨((show A615 7 (pa).toNat = kp from (congrFun ((hF619.2 7 rfl).trans (hF560.2 7 rfl)) _).trans (e_kp)).trans (by omega : kp = 5)), (wE_mono (by omega) (by omega) (by omega) sf630)⟩)), (NX_nd p625), by omega, (NdM_w (NdM_app (sy := sy) sf631 p626 (by omega) (by omega) (by omega)) (by omega) (by omega) (by omega))⟩))⟩
    · have _q := h40
      exact absurd h40 (by omega)
set_option maxRecDepth 20000 in
set_option maxHeartbeats 4000000 in
theorem c_readCall_w_at_88p {X : jX} {d : Nat} {Vs : Nat → Prop} {sb pb : Int} {c0 c1 : jC} {G : Nat → Int} {A : Nat → Nat → Int} {T : jH} {s : Int} {ln le at0 fk op0 nd tk0 li kd nu mp pp ec sy : Int} (hd : 71 ≤ d + 1) (hW : Wk G A) (e_ln : G 9 = ln) (e_le : A 4 (ln).toNat = le) (e_at0 : G 10 = at0) (e_fk : G 16 = fk) (e_op0 : G 15 = op0) (e_nd : G 31 = nd) (e_tk0 : G 11 = tk0) (e_li : G 3 = li) (e_kd : A 7 (s).toNat = kd) (e_nu : A 12 (s).toNat = nu) (e_mp : A 30 (nu).toNat = mp) (e_pp : A 29 (nu).toNat = pp) (e_ec : ecn A (G 31) = ec) (e_sy : G 19 = sy) (i_SV : SV Vs sb G A) (i_PQ : PQ Vs sb pb G A) (h_s : (-2147483648 : Int) ≤ s ∧ s ≤ 2147483647) (p_0 : 0 ≤ op0 ∧ op0 ≤ 8) (p_1 : fk = 0) (p_2 : nd ≤ 2 * at0 - tz tk0 + 42) (p_3 : at0 ≤ le) (p_4 : ln < li) (p_5 : 0 ≤ s ∧ s ≤ 201) (p_6 : 1 ≤ tk0) (p_7 : kd = 14) (p_8 : SY Vs sb (s)) : ∀ (L : jL) (Gx : Nat → Int) (Ax : Nat → Nat → Int) (n many last kk at1 tk1 fk1 nd1 op1 ec1 : Int), jGet L 0 = some (.ref 66) → jGet L 1 = some (.int (i32 (s))) → jGet L 2 = some (.int (i32 n)) → jGet L 3 = some (.int (i32 many)) → jGet L 4 = some (.int (i32 last)) → jGet L 5 = some (.int (i32 kk)) → Wk Gx Ax → Fr [9, 10, 11, 12, 13, 14, 15, 16, 17, 18, 31] [15, 16, 17, 18, 19, 20, 21, 22, 24, 28] G A Gx Ax → Pf nd A Ax → Gx 10 = at1 → Gx 11 = tk1 → Gx 16 = fk1 → Gx 31 = nd1 → Gx 15 = op1 → ecn Ax (Gx 31) = ec1 → Gx 9 = ln → ((-2147483648 : Int) ≤ n ∧ n ≤ 2147483647) → ((-2147483648 : Int) ≤ many ∧ many ≤ 2147483647) → ((-2147483648 : Int) ≤ last ∧ last ≤ 2147483647) → ((-2147483648 : Int) ≤ kk ∧ kk ≤ 2147483647) → (1 ≤ fk1) → (at0 ≤ at1) → (at1 ≤ le) → (nd ≤ n ∧ n ≤ 6998) → (nd ≤ nd1 ∧ n < nd1) → (0 ≤ op1 ∧ op1 ≤ 9) → (nd1 - nd ≤ (2 * at1 - tz tk1) - (2 * at0 - tz tk0) + 4) → wj X d jm305 (88, L, [], rV c0 c1 Gx Ax T) (fun o V_q => ∃ (G_q : Nat → Int) (A_q : Nat → Nat → Int) (r : Int) (at2 : Int) (fk2 : Int) (nd2 : Int) (ln2 : Int) (ec2 : Int), V_q = rV c0 c1 G_q A_q T ∧ o = .inl (some (.int (i32 r))) ∧ Wk G_q A_q ∧ Fr [9, 10, 11, 12, 13, 14, 15, 16, 17, 18, 31] [15, 16, 17, 18, 19, 20, 21, 22, 24, 28] G A G_q A_q ∧ Pf nd A A_q ∧ ((-2147483648 : Int) ≤ r ∧ r ≤ 2147483647) ∧ G_q 10 = at2 ∧ G_q 16 = fk2 ∧ G_q 31 = nd2 ∧ G_q 9 = ln2 ∧ ecn A_q (G_q 31) = ec2 ∧ (at0 ≤ at2) ∧ (at2 ≤ le) ∧ (nd ≤ nd2) ∧ (0 ≤ r) ∧ (r ≤ nd2) ∧ (((1 ≤ fk2) ∧ (ln2 = ln) ∧ (nd2 - nd ≤ 2 * at2 - 2 * at0 + 8)) ∨ ((fk2 = 0) ∧ (ln2 = ln + 1) ∧ (nd2 - nd ≤ 2 * at2 - (2 * at0 - tz tk0) + 0) ∧ (nd ≤ r) ∧ (r < nd2) ∧ (wL A_q sb pb Vs (r) (nd) (nd2)) ∧ (NX A_q (r)) ∧ (nd2 - nd + 5 * (ec2 - ec) ≤ 2 * at2 - (2 * at0 - tz tk0) + 0) ∧ (NdM A_q (nd) (nd2) (sy))))) := by
  have hF0 : Fr [9, 10, 11, 12, 13, 14, 15, 16, 17, 18, 31] [15, 16, 17, 18, 19, 20, 21, 22, 24, 28] G A G A := Fr_rf
  have hP0 : Pf nd A A := Pf_rf
  have b_ln : (0 : Int) ≤ ln ∧ ln ≤ 3000 := e_ln ▸ hW.1 9
  have b_le : (0 : Int) ≤ le ∧ le ≤ 3000 := e_le ▸ hW.2 4 _
  have b_at0 : (0 : Int) ≤ at0 ∧ at0 ≤ 3002 := e_at0 ▸ hW.1 10
  have b_fk : (0 : Int) ≤ fk ∧ fk ≤ 6 := e_fk ▸ hW.1 16
  have b_op0 : (-2147483648 : Int) ≤ op0 ∧ op0 ≤ 2147483647 := e_op0 ▸ hW.1 15
  have b_nd : (0 : Int) ≤ nd ∧ nd ≤ 6999 := e_nd ▸ hW.1 31
  have z_tk0 := tz_f tk0
  have b_tk0 : (0 : Int) ≤ tk0 ∧ tk0 ≤ 5 := e_tk0 ▸ hW.1 11
  have b_li : (0 : Int) ≤ li ∧ li ≤ 3000 := e_li ▸ hW.1 3
  have b_kd : (0 : Int) ≤ kd ∧ kd ≤ 14 := e_kd ▸ hW.2 7 _
  have b_nu : (0 : Int) ≤ nu ∧ nu ≤ 24 := e_nu ▸ hW.2 12 _
  have b_mp : (0 : Int) ≤ mp ∧ mp ≤ 6 := e_mp ▸ hW.2 30 _
  have b_pp : (0 : Int) ≤ pp ∧ pp ≤ 202 := e_pp ▸ hW.2 29 _
  have b_sy : (0 : Int) ≤ sy ∧ sy ≤ 202 := e_sy ▸ hW.1 19
  have pq := PQ_at i_PQ p_8 (e_kd.trans (by omega)) e_nu e_mp e_pp
  intro L Gx Ax n many last kk at1 tk1 fk1 nd1 op1 ec1 gL_0 gL_1 gL_2 gL_3 gL_4 gL_5 hWx hFx hPx ex_at1 ex_tk1 ex_fk1 ex_nd1 ex_op1 ex_ec1 fx_9 rx_n rx_many rx_last rx_kk iv_0 iv_1 iv_2 iv_3 iv_4 iv_5 iv_6
  have b_at1 : (0 : Int) ≤ at1 ∧ at1 ≤ 3002 := ex_at1 ▸ hWx.1 10
  have z_tk1 := tz_f tk1
  have b_tk1 : (0 : Int) ≤ tk1 ∧ tk1 ≤ 5 := ex_tk1 ▸ hWx.1 11
  have b_fk1 : (0 : Int) ≤ fk1 ∧ fk1 ≤ 6 := ex_fk1 ▸ hWx.1 16
  have b_nd1 : (0 : Int) ≤ nd1 ∧ nd1 ≤ 6999 := ex_nd1 ▸ hWx.1 31
  have b_op1 : (-2147483648 : Int) ≤ op1 ∧ op1 ≤ 2147483647 := ex_op1 ▸ hWx.1 15
  refine jx_ld (pc_q := 89) (l_q := L) (st_q := [.ref 66]) rfl (jl_aloadn gL_0) ?_
  refine jx_vr (pc_q := 92) (as := []) (st := []) rfl rfl rfl rfl ⟨rfl, rfl, Nat.le_of_ble_eq_true rfl⟩ rfl rfl (c_bad (dd := d) (hd := by omega) (hW := hWx)  (fk := fk1) (e_fk := show Gx 16 = fk1 from (ex_fk1))    ) (fun o V_q hq => ?_)
  obtain ⟨r1, rfl, rfl, b2, q3⟩ := hq
  refine .inr ⟨_, rfl, ?_⟩
  rcases q3 with ⟨rfl, a4⟩ | ⟨rfl, a5⟩
  · have _q : True := trivial
    refine jx_if_ne (pc_q := 95) (tg := 233) rfl rfl rfl (by decide) (by decide) (fun h6 => ?_) (fun h6 => ?_)
    · have _q := h6
      refine jx_ld (pc_q := 234) (l_q := L) (st_q := [.ref 66]) rfl (jl_aloadn gL_0) ?_
      refine jx_ld (pc_q := 235) (l_q := L) (st_q := [.ref 66, .ref 66]) rfl (jl_aloadn gL_0) ?_
      refine jx_ar (pc_q := 237) (st_q := [.int (i32 (41)), .ref 66, .ref 66]) rfl rfl rfl rfl ?_
      have b7 : (-2147483648 : Int) ≤ Gx 13 ∧ Gx 13 ≤ 2147483647 := hWx.1 13
      refine jx_vr (pc_q := 240) (as := [.int (i32 (41))]) (st := [.ref 66]) rfl rfl rfl rfl ⟨rfl, rfl, Nat.le_of_ble_eq_true rfl⟩ rfl rfl (c_is (dd := d) (hd := by omega) (hW := hWx) (k := 41) (tk := tk1) (e_tk := show Gx 11 = tk1 from (ex_tk1)) (tn := Gx 13) (e_tn := show Gx 13 = Gx 13 from rfl)  (h_k := ⟨(by decide), (by decide)⟩)  ) (fun o V_q hq => ?_)
      obtain ⟨r8, rfl, rfl, b9, q10⟩ := hq
      refine .inr ⟨_, rfl, ?_⟩
      rcases q10 with ⟨rfl, a11, a12, a13⟩ | rfl
      · have _q : True := trivial
        refine jx_vr (pc_q := 243) (as := [.int (i32 (1))]) (st := []) rfl rfl rfl rfl ⟨rfl, rfl, Nat.le_of_ble_eq_true rfl⟩ rfl rfl (c_need (dd := d) (hd := by omega) (hW := hWx) (g := 1) (ln := ln) (e_ln := show Gx 9 = ln from (fx_9)) (le := le) (e_le := show Ax 4 (ln).toNat = le from (congrFun (hFx.2 4 rfl) _).trans (e_le)) (at0 := at1) (e_at0 := show Gx 10 = at1 from (ex_at1)) (fk := fk1) (e_fk := show Gx 16 = fk1 from (ex_fk1)) (tk0 := tk1) (e_tk0 := show Gx 11 = tk1 from (ex_tk1))  (h_g := ⟨(by decide), (by decide)⟩)  (p_0 := by omega)) (fun o V_q hq => ?_)
        obtain ⟨G14, A15, at2_16, tk2_17, fk2_18, rfl, rfl, hW19, hF20, e21, e22, e23, p24, p25, q26⟩ := hq
        have hF27 := Fr_tr hFx hF20 (Fr_sub (by decide)) (Fr_sub (by decide))
        have hP28 := Pf_f hPx hF20 (by decide)
        have ec29 : ecn A15 (G14 31) = ec1 := (ecn_f (hF20.2 15 rfl) (hF20.1 31 rfl)).trans ex_ec1
        have bat2_16 : (0 : Int) ≤ at2_16 ∧ at2_16 ≤ 3002 := e21 ▸ hW19.1 10
        have ztk2_17 := tz_b tk2_17
        have btk2_17 : (0 : Int) ≤ tk2_17 ∧ tk2_17 ≤ 5 := e22 ▸ hW19.1 11
        have bfk2_18 : (0 : Int) ≤ fk2_18 ∧ fk2_18 ≤ 6 := e23 ▸ hW19.1 16
        refine .inl ⟨rfl, ?_⟩
        rcases q26 with ⟨a30, a31, a32, a33⟩ | ⟨a34, a35, a36, a37⟩
        · have _q : True := trivial
          refine jx_ld (pc_q := 244) (l_q := L) (st_q := [.ref 66]) rfl (jl_aloadn gL_0) ?_
          refine jx_ar (pc_q := 245) (st_q := [.ref 66, .ref 66]) rfl rfl rfl rfl ?_
          refine jr_get (pc_q := 248) (i := 15) (v := .int (i32 (op1))) rfl rfl (by decide) (rFv_eq (by decide) (show G14 15 = op1 from ((hF20.1 15 rfl).trans (ex_op1)))) rfl ?_
          refine jx_ar (pc_q := 249) (st_q := [.int (i32 (1)), .int (i32 (op1)), .ref 66]) rfl rfl rfl rfl ?_
          refine jx_sub (pc_q := 250) rfl rfl ?_
          refine jr_put (pc_q := 253) (i := 15) (z := (op1 - 1)) rfl rfl (by decide) rfl rfl rfl rfl rfl rfl ?_
          have hW38 : Wk (uG G14 15 ((op1 - 1))) A15 := Wk_g hW19 (show (-2147483648 : Int) ≤ (op1 - 1) by omega) (show (op1 - 1) ≤ (2147483647 : Int) by omega)
          have hF39 := Fr_g (z := (op1 - 1)) (i := 15) hF27 (by decide)
          have ec40 : ecn A15 ((uG G14 15 ((op1 - 1))) 31) = ec1 := ec29
          refine jx_ld (pc_q := 254) (l_q := L) (st_q := [.ref 66]) rfl (jl_aloadn gL_0) ?_
          refine jx_vr (pc_q := 257) (as := []) (st := []) rfl rfl rfl rfl ⟨rfl, rfl, Nat.le_of_ble_eq_true rfl⟩ rfl rfl (c_endLine (dd := d) (hd := by omega) (hW := hW38)  (ln := ln) (e_ln := show (uG G14 15 ((op1 - 1))) 9 = ln from ((hF20.1 9 rfl).trans (fx_9))) (li := li) (e_li := show (uG G14 15 ((op1 - 1))) 3 = li from ((hF20.1 3 rfl).trans ((hFx.1 3 rfl).trans (e_li)))) (fk := fk2_18) (e_fk := show (uG G14 15 ((op1 - 1))) 16 = fk2_18 from (e23)) (tk0 := tk2_17) (e_tk0 := show (uG G14 15 ((op1 - 1))) 11 = tk2_17 from (e22))    (p_0 := by omega)) (fun o V_q hq => ?_)
          obtain ⟨G41, A42, ln2_43, fk2_44, rfl, rfl, hW45, hF46, e47, e48, q49⟩ := hq
          have hF50 := Fr_tr hF39 hF46 (Fr_sub (by decide)) (Fr_sub (by decide))
          have hP51 := Pf_f hP28 hF46 (by decide)
          have ec52 : ecn A42 (G41 31) = ec1 := (ecn_f (hF46.2 15 rfl) (hF46.1 31 rfl)).trans ec40
          have bln2_43 : (0 : Int) ≤ ln2_43 ∧ ln2_43 ≤ 3000 := e47 ▸ hW45.1 9
          have bfk2_44 : (0 : Int) ≤ fk2_44 ∧ fk2_44 ≤ 6 := e48 ▸ hW45.1 16
          refine .inl ⟨rfl, ?_⟩
          rcases q49 with ⟨a53, a54, a55, a56, a57⟩ | ⟨a58, a59⟩
          · have _q : True := trivial
            exfalso
            omega
          · have _q : True := trivial
            refine jx_ld (pc_q := 258) (l_q := L) (st_q := [.int (i32 (n))]) rfl (jl_iloadn gL_2) ?_
            refine jx_rt (v := some (.int (i32 (n)))) rfl rfl rfl rfl rfl rfl ?_
            exact ⟨_, _, _, at2_16, fk2_44, nd1, ln2_43, ec1, rfl, rfl, hW45, hF50, hP51, by omega, ((hF46.1 10 rfl).trans (e21)), (e48), ((hF46.1 31 rfl).trans ((hF20.1 31 rfl).trans (ex_nd1))), (e47), ec52, by omega, by omega, by omega, by omega, by omega, by first | exact Or.inl (⟨by omega, by omega, by omega⟩)⟩
        · have _q : True := trivial
          exfalso
          omega
      · have _q : True := trivial
        refine jx_vr (pc_q := 243) (as := [.int (i32 (0))]) (st := []) rfl rfl rfl rfl ⟨rfl, rfl, Nat.le_of_ble_eq_true rfl⟩ rfl rfl (c_need (dd := d) (hd := by omega) (hW := hWx) (g := 0) (ln := ln) (e_ln := show Gx 9 = ln from (fx_9)) (le := le) (e_le := show Ax 4 (ln).toNat = le from (congrFun (hFx.2 4 rfl) _).trans (e_le)) (at0 := at1) (e_at0 := show Gx 10 = at1 from (ex_at1)) (fk := fk1) (e_fk := show Gx 16 = fk1 from (ex_fk1)) (tk0 := tk1) (e_tk0 := show Gx 11 = tk1 from (ex_tk1))  (h_g := ⟨(by decide), (by decide)⟩)  (p_0 := by omega)) (fun o V_q hq => ?_)
        obtain ⟨G60, A61, at2_62, tk2_63, fk2_64, rfl, rfl, hW65, hF66, e67, e68, e69, p70, p71, q72⟩ := hq
        have hF73 := Fr_tr hFx hF66 (Fr_sub (by decide)) (Fr_sub (by decide))
        have hP74 := Pf_f hPx hF66 (by decide)
        have ec75 : ecn A61 (G60 31) = ec1 := (ecn_f (hF66.2 15 rfl) (hF66.1 31 rfl)).trans ex_ec1
        have bat2_62 : (0 : Int) ≤ at2_62 ∧ at2_62 ≤ 3002 := e67 ▸ hW65.1 10
        have ztk2_63 := tz_b tk2_63
        have btk2_63 : (0 : Int) ≤ tk2_63 ∧ tk2_63 ≤ 5 := e68 ▸ hW65.1 11
        have bfk2_64 : (0 : Int) ≤ fk2_64 ∧ fk2_64 ≤ 6 := e69 ▸ hW65.1 16
        refine .inl ⟨rfl, ?_⟩
        rcases q72 with ⟨a76, a77, a78, a79⟩ | ⟨a80, a81, a82, a83⟩
        · have _q : True := trivial
          refine jx_ld (pc_q := 244) (l_q := L) (st_q := [.ref 66]) rfl (jl_aloadn gL_0) ?_
          refine jx_ar (pc_q := 245) (st_q := [.ref 66, .ref 66]) rfl rfl rfl rfl ?_
          refine jr_get (pc_q := 248) (i := 15) (v := .int (i32 (op1))) rfl rfl (by decide) (rFv_eq (by decide) (show G60 15 = op1 from ((hF66.1 15 rfl).trans (ex_op1)))) rfl ?_
          refine jx_ar (pc_q := 249) (st_q := [.int (i32 (1)), .int (i32 (op1)), .ref 66]) rfl rfl rfl rfl ?_
          refine jx_sub (pc_q := 250) rfl rfl ?_
          refine jr_put (pc_q := 253) (i := 15) (z := (op1 - 1)) rfl rfl (by decide) rfl rfl rfl rfl rfl rfl ?_
          have hW84 : Wk (uG G60 15 ((op1 - 1))) A61 := Wk_g hW65 (show (-2147483648 : Int) ≤ (op1 - 1) by omega) (show (op1 - 1) ≤ (2147483647 : Int) by omega)
          have hF85 := Fr_g (z := (op1 - 1)) (i := 15) hF73 (by decide)
          have ec86 : ecn A61 ((uG G60 15 ((op1 - 1))) 31) = ec1 := ec75
          refine jx_ld (pc_q := 254) (l_q := L) (st_q := [.ref 66]) rfl (jl_aloadn gL_0) ?_
          refine jx_vr (pc_q := 257) (as := []) (st := []) rfl rfl rfl rfl ⟨rfl, rfl, Nat.le_of_ble_eq_true rfl⟩ rfl rfl (c_endLine (dd := d) (hd := by omega) (hW := hW84)  (ln := ln) (e_ln := show (uG G60 15 ((op1 - 1))) 9 = ln from ((hF66.1 9 rfl).trans (fx_9))) (li := li) (e_li := show (uG G60 15 ((op1 - 1))) 3 = li from ((hF66.1 3 rfl).trans ((hFx.1 3 rfl).trans (e_li)))) (fk := fk2_64) (e_fk := show (uG G60 15 ((op1 - 1))) 16 = fk2_64 from (e69)) (tk0 := tk2_63) (e_tk0 := show (uG G60 15 ((op1 - 1))) 11 = tk2_63 from (e68))    (p_0 := by omega)) (fun o V_q hq => ?_)
          obtain ⟨G87, A88, ln2_89, fk2_90, rfl, rfl, hW91, hF92, e93, e94, q95⟩ := hq
          have hF96 := Fr_tr hF85 hF92 (Fr_sub (by decide)) (Fr_sub (by decide))
          have hP97 := Pf_f hP74 hF92 (by decide)
          have ec98 : ecn A88 (G87 31) = ec1 := (ecn_f (hF92.2 15 rfl) (hF92.1 31 rfl)).trans ec86
          have bln2_89 : (0 : Int) ≤ ln2_89 ∧ ln2_89 ≤ 3000 := e93 ▸ hW91.1 9
          have bfk2_90 : (0 : Int) ≤ fk2_90 ∧ fk2_90 ≤ 6 := e94 ▸ hW91.1 16
          refine .inl ⟨rfl, ?_⟩
          rcases q95 with ⟨a99, a100, a101, a102, a103⟩ | ⟨a104, a105⟩
          · have _q : True := trivial
            exfalso
            omega
          · have _q : True := trivial
            refine jx_ld (pc_q := 258) (l_q := L) (st_q := [.int (i32 (n))]) rfl (jl_iloadn gL_2) ?_
            refine jx_rt (v := some (.int (i32 (n)))) rfl rfl rfl rfl rfl rfl ?_
            exact ⟨_, _, _, at2_62, fk2_90, nd1, ln2_89, ec1, rfl, rfl, hW91, hF96, hP97, by omega, ((hF92.1 10 rfl).trans (e67)), (e94), ((hF92.1 31 rfl).trans ((hF66.1 31 rfl).trans (ex_nd1))), (e93), ec98, by omega, by omega, by omega, by omega, by omega, by first | exact Or.inl (⟨by omega, by omega, by omega⟩)⟩
        · have _q : True := trivial
          exfalso
          omega
    · have _q := h6
      exact absurd h6 (by omega)
  · have _q : True := trivial
    exfalso
    omega
set_option maxRecDepth 20000 in
set_option maxHeartbeats 4000000 in
theorem c_readCall_w_at_88 {X : jX} {d : Nat} {Vs : Nat → Prop} {sb pb : Int} {c0 c1 : jC} {G : Nat → Int} {A : Nat → Nat → Int} {T : jH} {s : Int} {ln le at0 fk op0 nd tk0 li kd nu mp pp ec sy : Int} (hd : 71 ≤ d + 1) (hW : Wk G A) (e_ln : G 9 = ln) (e_le : A 4 (ln).toNat = le) (e_at0 : G 10 = at0) (e_fk : G 16 = fk) (e_op0 : G 15 = op0) (e_nd : G 31 = nd) (e_tk0 : G 11 = tk0) (e_li : G 3 = li) (e_kd : A 7 (s).toNat = kd) (e_nu : A 12 (s).toNat = nu) (e_mp : A 30 (nu).toNat = mp) (e_pp : A 29 (nu).toNat = pp) (e_ec : ecn A (G 31) = ec) (e_sy : G 19 = sy) (i_SV : SV Vs sb G A) (i_PQ : PQ Vs sb pb G A) (h_s : (-2147483648 : Int) ≤ s ∧ s ≤ 2147483647) (p_0 : 0 ≤ op0 ∧ op0 ≤ 8) (p_1 : fk = 0) (p_2 : nd ≤ 2 * at0 - tz tk0 + 42) (p_3 : at0 ≤ le) (p_4 : ln < li) (p_5 : 0 ≤ s ∧ s ≤ 201) (p_6 : 1 ≤ tk0) (p_7 : kd = 14) (p_8 : SY Vs sb (s)) : ∀ (m : Nat) (L : jL) (Gx : Nat → Int) (Ax : Nat → Nat → Int) (n many last kk at1 tk1 fk1 nd1 op1 ec1 : Int), (many - kk).toNat = m → jGet L 0 = some (.ref 66) → jGet L 1 = some (.int (i32 (s))) → jGet L 2 = some (.int (i32 n)) → jGet L 3 = some (.int (i32 many)) → jGet L 4 = some (.int (i32 last)) → jGet L 5 = some (.int (i32 kk)) → Wk Gx Ax → Fr [9, 10, 11, 12, 13, 14, 15, 16, 17, 18, 31] [15, 16, 17, 18, 19, 20, 21, 22, 24, 28] G A Gx Ax → Pf nd A Ax → Gx 10 = at1 → Gx 11 = tk1 → Gx 16 = fk1 → Gx 31 = nd1 → Gx 15 = op1 → ecn Ax (Gx 31) = ec1 → Gx 9 = ln → ((-2147483648 : Int) ≤ n ∧ n ≤ 2147483647) → ((-2147483648 : Int) ≤ many ∧ many ≤ 2147483647) → ((-2147483648 : Int) ≤ last ∧ last ≤ 2147483647) → ((-2147483648 : Int) ≤ kk ∧ kk ≤ 2147483647) → (fk1 = 0) → (at0 ≤ at1) → (at1 ≤ le) → (nd ≤ n ∧ n ≤ 6998) → (nd ≤ nd1 ∧ n < nd1) → (0 ≤ many ∧ many ≤ 6) → (last = 0 ∨ n < last) → (last < nd1) → (0 ≤ last ∧ last ≤ 6998) → (0 ≤ kk ∧ kk ≤ many) → (op1 = op0 + 1) → (op1 ≤ 8) → (nd1 - nd ≤ (2 * at1 - tz tk1) - (2 * at0 - tz tk0) + 1) → (kk = many ∨ nd1 - nd ≤ (2 * at1 - tz tk1) - (2 * at0 - tz tk0)) → (many = mp) → (ND Ax (n) (25) (nu) (0) (0) (0) (Ax 21 (n).toNat) (0)) → (CA Ax Vs sb (n) (last) (kk) (pp) (n + 1) (nd1)) → (nd1 - nd + 5 * (ec1 - ec) ≤ (2 * at1 - tz tk1) - (2 * at0 - tz tk0) + 1) → (kk = many ∨ nd1 - nd + 5 * (ec1 - ec) ≤ (2 * at1 - tz tk1) - (2 * at0 - tz tk0)) → (NdM Ax (nd) (nd1) (sy)) → wj X d jm305 (88, L, [], rV c0 c1 Gx Ax T) (fun o V_q => ∃ (G_q : Nat → Int) (A_q : Nat → Nat → Int) (r : Int) (at2 : Int) (fk2 : Int) (nd2 : Int) (ln2 : Int) (ec2 : Int), V_q = rV c0 c1 G_q A_q T ∧ o = .inl (some (.int (i32 r))) ∧ Wk G_q A_q ∧ Fr [9, 10, 11, 12, 13, 14, 15, 16, 17, 18, 31] [15, 16, 17, 18, 19, 20, 21, 22, 24, 28] G A G_q A_q ∧ Pf nd A A_q ∧ ((-2147483648 : Int) ≤ r ∧ r ≤ 2147483647) ∧ G_q 10 = at2 ∧ G_q 16 = fk2 ∧ G_q 31 = nd2 ∧ G_q 9 = ln2 ∧ ecn A_q (G_q 31) = ec2 ∧ (at0 ≤ at2) ∧ (at2 ≤ le) ∧ (nd ≤ nd2) ∧ (0 ≤ r) ∧ (r ≤ nd2) ∧ (((1 ≤ fk2) ∧ (ln2 = ln) ∧ (nd2 - nd ≤ 2 * at2 - 2 * at0 + 8)) ∨ ((fk2 = 0) ∧ (ln2 = ln + 1) ∧ (nd2 - nd ≤ 2 * at2 - (2 * at0 - tz tk0) + 0) ∧ (nd ≤ r) ∧ (r < nd2) ∧ (wL A_q sb pb Vs (r) (nd) (nd2)) ∧ (NX A_q (r)) ∧ (nd2 - nd + 5 * (ec2 - ec) ≤ 2 * at2 - (2 * at0 - tz tk0) + 0) ∧ (NdM A_q (nd) (nd2) (sy))))) := by
  have hF0 : Fr [9, 10, 11, 12, 13, 14, 15, 16, 17, 18, 31] [15, 16, 17, 18, 19, 20, 21, 22, 24, 28] G A G A := Fr_rf
  have hP0 : Pf nd A A := Pf_rf
  have b_ln : (0 : Int) ≤ ln ∧ ln ≤ 3000 := e_ln ▸ hW.1 9
  have b_le : (0 : Int) ≤ le ∧ le ≤ 3000 := e_le ▸ hW.2 4 _
  have b_at0 : (0 : Int) ≤ at0 ∧ at0 ≤ 3002 := e_at0 ▸ hW.1 10
  have b_fk : (0 : Int) ≤ fk ∧ fk ≤ 6 := e_fk ▸ hW.1 16
  have b_op0 : (-2147483648 : Int) ≤ op0 ∧ op0 ≤ 2147483647 := e_op0 ▸ hW.1 15
  have b_nd : (0 : Int) ≤ nd ∧ nd ≤ 6999 := e_nd ▸ hW.1 31
  have z_tk0 := tz_f tk0
  have b_tk0 : (0 : Int) ≤ tk0 ∧ tk0 ≤ 5 := e_tk0 ▸ hW.1 11
  have b_li : (0 : Int) ≤ li ∧ li ≤ 3000 := e_li ▸ hW.1 3
  have b_kd : (0 : Int) ≤ kd ∧ kd ≤ 14 := e_kd ▸ hW.2 7 _
  have b_nu : (0 : Int) ≤ nu ∧ nu ≤ 24 := e_nu ▸ hW.2 12 _
  have b_mp : (0 : Int) ≤ mp ∧ mp ≤ 6 := e_mp ▸ hW.2 30 _
  have b_pp : (0 : Int) ≤ pp ∧ pp ≤ 202 := e_pp ▸ hW.2 29 _
  have b_sy : (0 : Int) ≤ sy ∧ sy ≤ 202 := e_sy ▸ hW.1 19
  have pq := PQ_at i_PQ p_8 (e_kd.trans (by omega)) e_nu e_mp e_pp
  intro m
  induction m using Nat.strongRecOn with
  | ind m ih88 =>
    intro L Gx Ax n many last kk at1 tk1 fk1 nd1 op1 ec1 hm gL_0 gL_1 gL_2 gL_3 gL_4 gL_5 hWx hFx hPx ex_at1 ex_tk1 ex_fk1 ex_nd1 ex_op1 ex_ec1 fx_9 rx_n rx_many rx_last rx_kk iv_0 iv_1 iv_2 iv_3 iv_4 iv_5 iv_6 iv_7 iv_8 iv_9 iv_10 iv_11 iv_12 iv_13 iv_14 iv_15 iv_16 iv_17 iv_18 iv_19
    have b_at1 : (0 : Int) ≤ at1 ∧ at1 ≤ 3002 := ex_at1 ▸ hWx.1 10
    have z_tk1 := tz_f tk1
    have b_tk1 : (0 : Int) ≤ tk1 ∧ tk1 ≤ 5 := ex_tk1 ▸ hWx.1 11
    have b_fk1 : (0 : Int) ≤ fk1 ∧ fk1 ≤ 6 := ex_fk1 ▸ hWx.1 16
    have b_nd1 : (0 : Int) ≤ nd1 ∧ nd1 ≤ 6999 := ex_nd1 ▸ hWx.1 31
    have b_op1 : (-2147483648 : Int) ≤ op1 ∧ op1 ≤ 2147483647 := ex_op1 ▸ hWx.1 15
    refine jx_ld (pc_q := 89) (l_q := L) (st_q := [.ref 66]) rfl (jl_aloadn gL_0) ?_
    refine jx_vr (pc_q := 92) (as := []) (st := []) rfl rfl rfl rfl ⟨rfl, rfl, Nat.le_of_ble_eq_true rfl⟩ rfl rfl (c_bad (dd := d) (hd := by omega) (hW := hWx)  (fk := fk1) (e_fk := show Gx 16 = fk1 from (ex_fk1))    ) (fun o V_q hq => ?_)
    obtain ⟨r106, rfl, rfl, b107, q108⟩ := hq
    refine .inr ⟨_, rfl, ?_⟩
    rcases q108 with ⟨rfl, a109⟩ | ⟨rfl, a110⟩
    · have _q : True := trivial
      exfalso
      omega
    · have _q : True := trivial
      refine jx_if_ne (pc_q := 95) (tg := 233) rfl rfl rfl (by decide) (by decide) (fun h111 => ?_) (fun h111 => ?_)
      · have _q := h111
        exact absurd h111 (by omega)
      · have _q := h111
        refine jx_ld (pc_q := 97) (l_q := L) (st_q := [.int (i32 (kk))]) rfl (jl_iload gL_5) ?_
        refine jx_ld (pc_q := 98) (l_q := L) (st_q := [.int (i32 (many)), .int (i32 (kk))]) rfl (jl_iloadn gL_3) ?_
        refine jx_icmp_ge (pc_q := 101) (tg := 233) rfl rfl rfl (Int.le_trans (by decide : (-2147483648 : Int) ≤ -2147483648) rx_kk.1) (Int.le_trans rx_kk.2 (by decide : (2147483647 : Int) ≤ 2147483647)) (Int.le_trans (by decide : (-2147483648 : Int) ≤ -2147483648) rx_many.1) (Int.le_trans rx_many.2 (by decide : (2147483647 : Int) ≤ 2147483647)) (fun h112 => ?_) (fun h112 => ?_)
        · have _q := h112
          refine jx_ld (pc_q := 234) (l_q := L) (st_q := [.ref 66]) rfl (jl_aloadn gL_0) ?_
          refine jx_ld (pc_q := 235) (l_q := L) (st_q := [.ref 66, .ref 66]) rfl (jl_aloadn gL_0) ?_
          refine jx_ar (pc_q := 237) (st_q := [.int (i32 (41)), .ref 66, .ref 66]) rfl rfl rfl rfl ?_
          have b113 : (-2147483648 : Int) ≤ Gx 13 ∧ Gx 13 ≤ 2147483647 := hWx.1 13
          refine jx_vr (pc_q := 240) (as := [.int (i32 (41))]) (st := [.ref 66]) rfl rfl rfl rfl ⟨rfl, rfl, Nat.le_of_ble_eq_true rfl⟩ rfl rfl (c_is (dd := d) (hd := by omega) (hW := hWx) (k := 41) (tk := tk1) (e_tk := show Gx 11 = tk1 from (ex_tk1)) (tn := Gx 13) (e_tn := show Gx 13 = Gx 13 from rfl)  (h_k := ⟨(by decide), (by decide)⟩)  ) (fun o V_q hq => ?_)
          obtain ⟨r114, rfl, rfl, b115, q116⟩ := hq
          refine .inr ⟨_, rfl, ?_⟩
          rcases q116 with ⟨rfl, a117, a118, a119⟩ | rfl
          · have _q : True := trivial
            refine jx_vr (pc_q := 243) (as := [.int (i32 (1))]) (st := []) rfl rfl rfl rfl ⟨rfl, rfl, Nat.le_of_ble_eq_true rfl⟩ rfl rfl (c_need (dd := d) (hd := by omega) (hW := hWx) (g := 1) (ln := ln) (e_ln := show Gx 9 = ln from (fx_9)) (le := le) (e_le := show Ax 4 (ln).toNat = le from (congrFun (hFx.2 4 rfl) _).trans (e_le)) (at0 := at1) (e_at0 := show Gx 10 = at1 from (ex_at1)) (fk := fk1) (e_fk := show Gx 16 = fk1 from (ex_fk1)) (tk0 := tk1) (e_tk0 := show Gx 11 = tk1 from (ex_tk1))  (h_g := ⟨(by decide), (by decide)⟩)  (p_0 := by omega)) (fun o V_q hq => ?_)
            obtain ⟨G120, A121, at2_122, tk2_123, fk2_124, rfl, rfl, hW125, hF126, e127, e128, e129, p130, p131, q132⟩ := hq
            have hF133 := Fr_tr hFx hF126 (Fr_sub (by decide)) (Fr_sub (by decide))
            have hP134 := Pf_f hPx hF126 (by decide)
            have sf135 : ND A121 (n) (25) (nu) (0) (0) (0) (Ax 21 (n).toNat) (0) := ND_ag (by omega) (Ag_fr hF126 (by decide)) iv_15
            have sf136 : CA A121 Vs sb (n) (last) (kk) (pp) (n + 1) (nd1) := CA_ag (by omega) (Sg_fr hF126 (by decide)) (Ag_fr hF126 (by decide)) (congrFun (hF126.2 21 rfl) _) iv_16
            have sf137 : NdM A121 (nd) (nd1) (sy) := NdM_f hF126 (by decide) iv_19
            have ec138 : ecn A121 (G120 31) = ec1 := (ecn_f (hF126.2 15 rfl) (hF126.1 31 rfl)).trans ex_ec1
            have bat2_122 : (0 : Int) ≤ at2_122 ∧ at2_122 ≤ 3002 := e127 ▸ hW125.1 10
            have ztk2_123 := tz_b tk2_123
            have btk2_123 : (0 : Int) ≤ tk2_123 ∧ tk2_123 ≤ 5 := e128 ▸ hW125.1 11
            have bfk2_124 : (0 : Int) ≤ fk2_124 ∧ fk2_124 ≤ 6 := e129 ▸ hW125.1 16
            refine .inl ⟨rfl, ?_⟩
            rcases q132 with ⟨a139, a140, a141, a142⟩ | ⟨a143, a144, a145, a146⟩
            · have _q : True := trivial
              refine jx_ld (pc_q := 244) (l_q := L) (st_q := [.ref 66]) rfl (jl_aloadn gL_0) ?_
              refine jx_ar (pc_q := 245) (st_q := [.ref 66, .ref 66]) rfl rfl rfl rfl ?_
              refine jr_get (pc_q := 248) (i := 15) (v := .int (i32 (op1))) rfl rfl (by decide) (rFv_eq (by decide) (show G120 15 = op1 from ((hF126.1 15 rfl).trans (ex_op1)))) rfl ?_
              refine jx_ar (pc_q := 249) (st_q := [.int (i32 (1)), .int (i32 (op1)), .ref 66]) rfl rfl rfl rfl ?_
              refine jx_sub (pc_q := 250) rfl rfl ?_
              refine jr_put (pc_q := 253) (i := 15) (z := (op1 - 1)) rfl rfl (by decide) rfl rfl rfl rfl rfl rfl ?_
              have hW147 : Wk (uG G120 15 ((op1 - 1))) A121 := Wk_g hW125 (show (-2147483648 : Int) ≤ (op1 - 1) by omega) (show (op1 - 1) ≤ (2147483647 : Int) by omega)
              have hF148 := Fr_g (z := (op1 - 1)) (i := 15) hF133 (by decide)
              have ec149 : ecn A121 ((uG G120 15 ((op1 - 1))) 31) = ec1 := ec138
              refine jx_ld (pc_q := 254) (l_q := L) (st_q := [.ref 66]) rfl (jl_aloadn gL_0) ?_
              refine jx_vr (pc_q := 257) (as := []) (st := []) rfl rfl rfl rfl ⟨rfl, rfl, Nat.le_of_ble_eq_true rfl⟩ rfl rfl (c_endLine (dd := d) (hd := by omega) (hW := hW147)  (ln := ln) (e_ln := show (uG G120 15 ((op1 - 1))) 9 = ln from ((hF126.1 9 rfl).trans (fx_9))) (li := li) (e_li := show (uG G120 15 ((op1 - 1))) 3 = li from ((hF126.1 3 rfl).trans ((hFx.1 3 rfl).trans (e_li)))) (fk := fk2_124) (e_fk := show (uG G120 15 ((op1 - 1))) 16 = fk2_124 from (e129)) (tk0 := tk2_123) (e_tk0 := show (uG G120 15 ((op1 - 1))) 11 = tk2_123 from (e128))    (p_0 := by omega)) (fun o V_q hq => ?_)
              obtain ⟨G150, A151, ln2_152, fk2_153, rfl, rfl, hW154, hF155, e156, e157, q158⟩ := hq
              have hF159 := Fr_tr hF148 hF155 (Fr_sub (by decide)) (Fr_sub (by decide))
              have hP160 := Pf_f hP134 hF155 (by decide)
              have sf161 : ND A151 (n) (25) (nu) (0) (0) (0) (Ax 21 (n).toNat) (0) := ND_ag (by omega) (Ag_fr hF155 (by decide)) sf135
              have sf162 : CA A151 Vs sb (n) (last) (kk) (pp) (n + 1) (nd1) := CA_ag (by omega) (Sg_fr hF155 (by decide)) (Ag_fr hF155 (by decide)) (congrFun (hF155.2 21 rfl) _) sf136
              have sf163 : NdM A151 (nd) (nd1) (sy) := NdM_f hF155 (by decide) sf137
              have ec164 : ecn A151 (G150 31) = ec1 := (ecn_f (hF155.2 15 rfl) (hF155.1 31 rfl)).trans ec149
              have bln2_152 : (0 : Int) ≤ ln2_152 ∧ ln2_152 ≤ 3000 := e156 ▸ hW154.1 9
              have bfk2_153 : (0 : Int) ≤ fk2_153 ∧ fk2_153 ≤ 6 := e157 ▸ hW154.1 16
              refine .inl ⟨rfl, ?_⟩
              rcases q158 with ⟨a165, a166, a167, a168, a169⟩ | ⟨a170, a171⟩
              · have _q : True := trivial
                exfalso
                omega
              · have _q : True := trivial
                refine jx_ld (pc_q := 258) (l_q := L) (st_q := [.int (i32 (n))]) rfl (jl_iloadn gL_2) ?_
                refine jx_rt (v := some (.int (i32 (n)))) rfl rfl rfl rfl rfl rfl ?_
                exact ⟨_, _, _, at2_122, fk2_153, nd1, ln2_152, ec1, rfl, rfl, hW154, hF159, hP160, by omega, ((hF155.1 10 rfl).trans (e127)), (e157), ((hF155.1 31 rfl).trans ((hF126.1 31 rfl).trans (ex_nd1))), (e156), ec164, by omega, by omega, by omega, by omega, by omega, by first | exact Or.inl (⟨by omega, by omega, by omega⟩)⟩
            · have _q : True := trivial
              have pz172 : at1 + tz tk2_123 ≤ at2_122 := by omega
              refine jx_ld (pc_q := 244) (l_q := L) (st_q := [.ref 66]) rfl (jl_aloadn gL_0) ?_
              refine jx_ar (pc_q := 245) (st_q := [.ref 66, .ref 66]) rfl rfl rfl rfl ?_
              refine jr_get (pc_q := 248) (i := 15) (v := .int (i32 (op1))) rfl rfl (by decide) (rFv_eq (by decide) (show G120 15 = op1 from ((hF126.1 15 rfl).trans (ex_op1)))) rfl ?_
              refine jx_ar (pc_q := 249) (st_q := [.int (i32 (1)), .int (i32 (op1)), .ref 66]) rfl rfl rfl rfl ?_
              refine jx_sub (pc_q := 250) rfl rfl ?_
              refine jr_put (pc_q := 253) (i := 15) (z := (op1 - 1)) rfl rfl (by decide) rfl rfl rfl rfl rfl rfl ?_
              have hW173 : Wk (uG G120 15 ((op1 - 1))) A121 := Wk_g hW125 (show (-2147483648 : Int) ≤ (op1 - 1) by omega) (show (op1 - 1) ≤ (2147483647 : Int) by omega)
              have hF174 := Fr_g (z := (op1 - 1)) (i := 15) hF133 (by decide)
              have ec175 : ecn A121 ((uG G120 15 ((op1 - 1))) 31) = ec1 := ec138
              refine jx_ld (pc_q := 254) (l_q := L) (st_q := [.ref 66]) rfl (jl_aloadn gL_0) ?_
              refine jx_vr (pc_q := 257) (as := []) (st := []) rfl rfl rfl rfl ⟨rfl, rfl, Nat.le_of_ble_eq_true rfl⟩ rfl rfl (c_endLine (dd := d) (hd := by omega) (hW := hW173)  (ln := ln) (e_ln := show (uG G120 15 ((op1 - 1))) 9 = ln from ((hF126.1 9 rfl).trans (fx_9))) (li := li) (e_li := show (uG G120 15 ((op1 - 1))) 3 = li from ((hF126.1 3 rfl).trans ((hFx.1 3 rfl).trans (e_li)))) (fk := fk2_124) (e_fk := show (uG G120 15 ((op1 - 1))) 16 = fk2_124 from (e129)) (tk0 := tk2_123) (e_tk0 := show (uG G120 15 ((op1 - 1))) 11 = tk2_123 from (e128))    (p_0 := by omega)) (fun o V_q hq => ?_)
              obtain ⟨G176, A177, ln2_178, fk2_179, rfl, rfl, hW180, hF181, e182, e183, q184⟩ := hq
              have hF185 := Fr_tr hF174 hF181 (Fr_sub (by decide)) (Fr_sub (by decide))
              have hP186 := Pf_f hP134 hF181 (by decide)
              have sf187 : ND A177 (n) (25) (nu) (0) (0) (0) (Ax 21 (n).toNat) (0) := ND_ag (by omega) (Ag_fr hF181 (by decide)) sf135
              have sf188 : CA A177 Vs sb (n) (last) (kk) (pp) (n + 1) (nd1) := CA_ag (by omega) (Sg_fr hF181 (by decide)) (Ag_fr hF181 (by decide)) (congrFun (hF181.2 21 rfl) _) sf136
              have sf189 : NdM A177 (nd) (nd1) (sy) := NdM_f hF181 (by decide) sf137
              have ec190 : ecn A177 (G176 31) = ec1 := (ecn_f (hF181.2 15 rfl) (hF181.1 31 rfl)).trans ec175
              have bln2_178 : (0 : Int) ≤ ln2_178 ∧ ln2_178 ≤ 3000 := e182 ▸ hW180.1 9
              have bfk2_179 : (0 : Int) ≤ fk2_179 ∧ fk2_179 ≤ 6 := e183 ▸ hW180.1 16
              refine .inl ⟨rfl, ?_⟩
              rcases q184 with ⟨a191, a192, a193, a194, a195⟩ | ⟨a196, a197⟩
              · have _q : True := trivial
                refine jx_ld (pc_q := 258) (l_q := L) (st_q := [.int (i32 (n))]) rfl (jl_iloadn gL_2) ?_
                refine jx_rt (v := some (.int (i32 (n)))) rfl rfl rfl rfl rfl rfl ?_
                exact ⟨_, _, _, at2_122, fk2_179, nd1, ln2_178, ec1, rfl, rfl, hW180, hF185, hP186, by omega, ((hF181.1 10 rfl).trans (e127)), (e183), ((hF181.1 31 rfl).trans ((hF126.1 31 rfl).trans (ex_nd1))), (e182), ec190, by omega, by omega, by omega, by omega, by omega, by first | exact Or.inr ((⟨by omega, by omega, by omega, by omega, by omega, (wL_call (last := last) sf187 (by omega) (by omega) (by omega) ((show A177 30 (nu).toNat = mp from (congrFun ((hF181.2 30 rfl).trans ((hF126.2 30 rfl).trans (hFx.2 30 rfl))) _).trans (e_mp)).trans (by omega : mp = kk)) ((show A177 29 (nu).toNat = pp from (congrFun ((hF181.2 29 rfl).trans ((hF126.2 29 rfl).trans (hFx.2 29 rfl))) _).trans (e_pp)).trans (by omega : pp = pp)) (CA_eq sf188 (by omega) (by omega) (by omega) (by omega) (by omega))), (NX_nd sf187), by omega, sf189⟩))⟩
              · have _q : True := trivial
                refine jx_ld (pc_q := 258) (l_q := L) (st_q := [.int (i32 (n))]) rfl (jl_iloadn gL_2) ?_
                refine jx_rt (v := some (.int (i32 (n)))) rfl rfl rfl rfl rfl rfl ?_
                exact ⟨_, _, _, at2_122, fk2_179, nd1, ln2_178, ec1, rfl, rfl, hW180, hF185, hP186, by omega, ((hF181.1 10 rfl).trans (e127)), (e183), ((hF181.1 31 rfl).trans ((hF126.1 31 rfl).trans (ex_nd1))), (e182), ec190, by omega, by omega, by omega, by omega, by omega, by first | exact Or.inl (⟨by omega, by omega, by omega⟩)⟩
          · have _q : True := trivial
            refine jx_vr (pc_q := 243) (as := [.int (i32 (0))]) (st := []) rfl rfl rfl rfl ⟨rfl, rfl, Nat.le_of_ble_eq_true rfl⟩ rfl rfl (c_need (dd := d) (hd := by omega) (hW := hWx) (g := 0) (ln := ln) (e_ln := show Gx 9 = ln from (fx_9)) (le := le) (e_le := show Ax 4 (ln).toNat = le from (congrFun (hFx.2 4 rfl) _).trans (e_le)) (at0 := at1) (e_at0 := show Gx 10 = at1 from (ex_at1)) (fk := fk1) (e_fk := show Gx 16 = fk1 from (ex_fk1)) (tk0 := tk1) (e_tk0 := show Gx 11 = tk1 from (ex_tk1))  (h_g := ⟨(by decide), (by decide)⟩)  (p_0 := by omega)) (fun o V_q hq => ?_)
            obtain ⟨G198, A199, at2_200, tk2_201, fk2_202, rfl, rfl, hW203, hF204, e205, e206, e207, p208, p209, q210⟩ := hq
            have hF211 := Fr_tr hFx hF204 (Fr_sub (by decide)) (Fr_sub (by decide))
            have hP212 := Pf_f hPx hF204 (by decide)
            have sf213 : ND A199 (n) (25) (nu) (0) (0) (0) (Ax 21 (n).toNat) (0) := ND_ag (by omega) (Ag_fr hF204 (by decide)) iv_15
            have sf214 : CA A199 Vs sb (n) (last) (kk) (pp) (n + 1) (nd1) := CA_ag (by omega) (Sg_fr hF204 (by decide)) (Ag_fr hF204 (by decide)) (congrFun (hF204.2 21 rfl) _) iv_16
            have sf215 : NdM A199 (nd) (nd1) (sy) := NdM_f hF204 (by decide) iv_19
            have ec216 : ecn A199 (G198 31) = ec1 := (ecn_f (hF204.2 15 rfl) (hF204.1 31 rfl)).trans ex_ec1
            have bat2_200 : (0 : Int) ≤ at2_200 ∧ at2_200 ≤ 3002 := e205 ▸ hW203.1 10
            have ztk2_201 := tz_b tk2_201
            have btk2_201 : (0 : Int) ≤ tk2_201 ∧ tk2_201 ≤ 5 := e206 ▸ hW203.1 11
            have bfk2_202 : (0 : Int) ≤ fk2_202 ∧ fk2_202 ≤ 6 := e207 ▸ hW203.1 16
            refine .inl ⟨rfl, ?_⟩
            rcases q210 with ⟨a217, a218, a219, a220⟩ | ⟨a221, a222, a223, a224⟩
            · have _q : True := trivial
              refine jx_ld (pc_q := 244) (l_q := L) (st_q := [.ref 66]) rfl (jl_aloadn gL_0) ?_
              refine jx_ar (pc_q := 245) (st_q := [.ref 66, .ref 66]) rfl rfl rfl rfl ?_
              refine jr_get (pc_q := 248) (i := 15) (v := .int (i32 (op1))) rfl rfl (by decide) (rFv_eq (by decide) (show G198 15 = op1 from ((hF204.1 15 rfl).trans (ex_op1)))) rfl ?_
              refine jx_ar (pc_q := 249) (st_q := [.int (i32 (1)), .int (i32 (op1)), .ref 66]) rfl rfl rfl rfl ?_
              refine jx_sub (pc_q := 250) rfl rfl ?_
              refine jr_put (pc_q := 253) (i := 15) (z := (op1 - 1)) rfl rfl (by decide) rfl rfl rfl rfl rfl rfl ?_
              have hW225 : Wk (uG G198 15 ((op1 - 1))) A199 := Wk_g hW203 (show (-2147483648 : Int) ≤ (op1 - 1) by omega) (show (op1 - 1) ≤ (2147483647 : Int) by omega)
              have hF226 := Fr_g (z := (op1 - 1)) (i := 15) hF211 (by decide)
              have ec227 : ecn A199 ((uG G198 15 ((op1 - 1))) 31) = ec1 := ec216
              refine jx_ld (pc_q := 254) (l_q := L) (st_q := [.ref 66]) rfl (jl_aloadn gL_0) ?_
              refine jx_vr (pc_q := 257) (as := []) (st := []) rfl rfl rfl rfl ⟨rfl, rfl, Nat.le_of_ble_eq_true rfl⟩ rfl rfl (c_endLine (dd := d) (hd := by omega) (hW := hW225)  (ln := ln) (e_ln := show (uG G198 15 ((op1 - 1))) 9 = ln from ((hF204.1 9 rfl).trans (fx_9))) (li := li) (e_li := show (uG G198 15 ((op1 - 1))) 3 = li from ((hF204.1 3 rfl).trans ((hFx.1 3 rfl).trans (e_li)))) (fk := fk2_202) (e_fk := show (uG G198 15 ((op1 - 1))) 16 = fk2_202 from (e207)) (tk0 := tk2_201) (e_tk0 := show (uG G198 15 ((op1 - 1))) 11 = tk2_201 from (e206))    (p_0 := by omega)) (fun o V_q hq => ?_)
              obtain ⟨G228, A229, ln2_230, fk2_231, rfl, rfl, hW232, hF233, e234, e235, q236⟩ := hq
              have hF237 := Fr_tr hF226 hF233 (Fr_sub (by decide)) (Fr_sub (by decide))
              have hP238 := Pf_f hP212 hF233 (by decide)
              have sf239 : ND A229 (n) (25) (nu) (0) (0) (0) (Ax 21 (n).toNat) (0) := ND_ag (by omega) (Ag_fr hF233 (by decide)) sf213
              have sf240 : CA A229 Vs sb (n) (last) (kk) (pp) (n + 1) (nd1) := CA_ag (by omega) (Sg_fr hF233 (by decide)) (Ag_fr hF233 (by decide)) (congrFun (hF233.2 21 rfl) _) sf214
              have sf241 : NdM A229 (nd) (nd1) (sy) := NdM_f hF233 (by decide) sf215
              have ec242 : ecn A229 (G228 31) = ec1 := (ecn_f (hF233.2 15 rfl) (hF233.1 31 rfl)).trans ec227
              have bln2_230 : (0 : Int) ≤ ln2_230 ∧ ln2_230 ≤ 3000 := e234 ▸ hW232.1 9
              have bfk2_231 : (0 : Int) ≤ fk2_231 ∧ fk2_231 ≤ 6 := e235 ▸ hW232.1 16
              refine .inl ⟨rfl, ?_⟩
              rcases q236 with ⟨a243, a244, a245, a246, a247⟩ | ⟨a248, a249⟩
              · have _q : True := trivial
                exfalso
                omega
              · have _q : True := trivial
                refine jx_ld (pc_q := 258) (l_q := L) (st_q := [.int (i32 (n))]) rfl (jl_iloadn gL_2) ?_
                refine jx_rt (v := some (.int (i32 (n)))) rfl rfl rfl rfl rfl rfl ?_
                exact ⟨_, _, _, at2_200, fk2_231, nd1, ln2_230, ec1, rfl, rfl, hW232, hF237, hP238, by omega, ((hF233.1 10 rfl).trans (e205)), (e235), ((hF233.1 31 rfl).trans ((hF204.1 31 rfl).trans (ex_nd1))), (e234), ec242, by omega, by omega, by omega, by omega, by omega, by first | exact Or.inl (⟨by omega, by omega, by omega⟩)⟩
            · have _q : True := trivial
              exfalso
              omega
        · have _q := h112
          have pk := PQ_k i_PQ p_8 (e_kd.trans (by omega)) e_nu e_mp e_pp (show 0 ≤ kk by omega) (by omega)
          refine jx_ld (pc_q := 102) (l_q := L) (st_q := [.ref 66]) rfl (jl_aloadn gL_0) ?_
          refine jx_ld (pc_q := 103) (l_q := L) (st_q := [.ref 66, .ref 66]) rfl (jl_aloadn gL_0) ?_
          refine jr_get (pc_q := 106) (i := 47) (v := .ref 96) rfl rfl (by decide) rfl rfl ?_
          refine jx_ld (pc_q := 107) (l_q := L) (st_q := [.ref 66, .ref 96, .ref 66]) rfl (jl_aloadn gL_0) ?_
          refine jr_get (pc_q := 110) (i := 26) (v := .ref 79) rfl rfl (by decide) rfl rfl ?_
          refine jx_ld (pc_q := 111) (l_q := L) (st_q := [.int (i32 (s)), .ref 79, .ref 96, .ref 66]) rfl (jl_iloadn gL_1) ?_
          refine jr_ldv (pc_q := 112) (i := 12) (m := 260) (z := s) (y := nu) rfl (by decide) rfl (by decide) (by omega) (by omega) rfl (show Ax 12 (s).toNat = nu from (congrFun (hFx.2 12 rfl) _).trans (e_nu)) ?_
          refine jr_ldv (pc_q := 113) (i := 29) (m := 25) (z := nu) (y := pp) rfl (by decide) rfl (by decide) (Int.le_trans (by decide : (0 : Int) ≤ 0) b_nu.1) (Int.lt_of_le_of_lt b_nu.2 (by decide : (24 : Int) < ((25 : Nat) : Int))) rfl (show Ax 29 (nu).toNat = pp from (congrFun (hFx.2 29 rfl) _).trans (e_pp)) ?_
          refine jx_ld (pc_q := 115) (l_q := L) (st_q := [.int (i32 (kk)), .int (i32 (pp)), .ref 66]) rfl (jl_iload gL_5) ?_
          refine jx_add (pc_q := 116) rfl rfl ?_
          have b250 : (0 : Int) ≤ A 7 ((pp + kk)).toNat ∧ A 7 ((pp + kk)).toNat ≤ 14 := hW.2 7 _
          have b251 : (-2147483648 : Int) ≤ A 8 ((pp + kk)).toNat ∧ A 8 ((pp + kk)).toNat ≤ 2147483647 := hW.2 8 _
          refine jx_vr (pc_q := 119) (as := [.int (i32 ((pp + kk)))]) (st := []) rfl rfl rfl rfl ⟨rfl, rfl, Nat.le_of_ble_eq_true rfl⟩ rfl rfl (c_readArgument_w (dd := d) (hd := by omega) (hW := hWx) (pa := (pp + kk)) (ln := ln) (e_ln := show Gx 9 = ln from (fx_9)) (le := le) (e_le := show Ax 4 (ln).toNat = le from (congrFun (hFx.2 4 rfl) _).trans (e_le)) (at0 := at1) (e_at0 := show Gx 10 = at1 from (ex_at1)) (fk := fk1) (e_fk := show Gx 16 = fk1 from (ex_fk1)) (op0 := op1) (e_op0 := show Gx 15 = op1 from (ex_op1)) (nd := nd1) (e_nd := show Gx 31 = nd1 from (ex_nd1)) (tk0 := tk1) (e_tk0 := show Gx 11 = tk1 from (ex_tk1)) (kp := A 7 ((pp + kk)).toNat) (e_kp := show Ax 7 ((pp + kk)).toNat = A 7 ((pp + kk)).toNat from (congrFun (hFx.2 7 rfl) _)) (zp := A 8 ((pp + kk)).toNat) (e_zp := show Ax 8 ((pp + kk)).toNat = A 8 ((pp + kk)).toNat from (congrFun (hFx.2 8 rfl) _)) (ec := ec1) (e_ec := show ecn Ax (Gx 31) = ec1 from ex_ec1) (sy := sy) (e_sy := show Gx 19 = sy from ((hFx.1 19 rfl).trans (e_sy))) (i_SV := (SV_ext ((hFx.1 29 rfl)) ((hFx.2 14 rfl)) i_SV)) (h_pa := ⟨(by omega), (by omega)⟩)  (p_0 := by omega) (p_1 := by omega) (p_2 := by omega) (p_3 := by omega) (p_4 := by omega) (p_5 := by omega) (p_6 := by omega) (p_7 := by omega) (p_8 := by omega) (p_9 := by omega)) (fun o V_q hq => ?_)
          obtain ⟨G252, A253, r254, at2_255, fk2_256, op2_257, nd2_258, tk2_259, ec2_260, rfl, rfl, hW261, hF262, hQ263, b264, e265, e266, e267, e268, e269, e270, p271, p272, p273, p274, p275, p276, q277⟩ := hq
          have hF278 := Fr_tr hFx hF262 (Fr_sub (by decide)) (Fr_sub (by decide))
          have hP279 := Pf_tr hPx hQ263 (by omega)
          have sf280 : ND A253 (n) (25) (nu) (0) (0) (0) (Ax 21 (n).toNat) (0) := ND_ag (by omega) (Ag_pf hQ263 (by omega)) iv_15
          have sf281 : CA A253 Vs sb (n) (last) (kk) (pp) (n + 1) (nd1) := CA_ag (by omega) (Sg_fr hF262 (by decide)) (Ag_pf hQ263 (by omega)) (hQ263 21 _ rfl (by omega)) iv_16
          have sf282 : NdM A253 (nd) (nd1) (sy) := NdM_pf hQ263 (by omega) (by omega) iv_19
          have bat2_255 : (0 : Int) ≤ at2_255 ∧ at2_255 ≤ 3002 := e265 ▸ hW261.1 10
          have bfk2_256 : (0 : Int) ≤ fk2_256 ∧ fk2_256 ≤ 6 := e266 ▸ hW261.1 16
          have bop2_257 : (-2147483648 : Int) ≤ op2_257 ∧ op2_257 ≤ 2147483647 := e267 ▸ hW261.1 15
          have bnd2_258 : (0 : Int) ≤ nd2_258 ∧ nd2_258 ≤ 6999 := e268 ▸ hW261.1 31
          have ztk2_259 := tz_b tk2_259
          have btk2_259 : (0 : Int) ≤ tk2_259 ∧ tk2_259 ≤ 5 := e269 ▸ hW261.1 11
          refine .inr ⟨_, rfl, ?_⟩
          rcases q277 with ⟨a283, a284, a285⟩ | ⟨a286, a287, a288, a289, a290, a291, a292, a293, a294⟩
          · have _q : True := trivial
            refine jx_ld (pc_q := 121) (l_q := jSto1 L 6 (.int (i32 (r254)))) (st_q := []) rfl rfl ?_
            obtain ⟨L295, eL295⟩ : ∃ q, q = jSto1 L 6 (.int (i32 (r254))) := ⟨_, rfl⟩
            rw [← eL295]
            have gL295_0 : jGet L295 0 = some (.ref 66) := eL295 ▸ jg_ne (by decide) gL_0 rfl
            have gL295_1 : jGet L295 1 = some (.int (i32 (s))) := eL295 ▸ jg_ne (by decide) gL_1 rfl
            have gL295_2 : jGet L295 2 = some (.int (i32 (n))) := eL295 ▸ jg_ne (by decide) gL_2 rfl
            have gL295_3 : jGet L295 3 = some (.int (i32 (many))) := eL295 ▸ jg_ne (by decide) gL_3 rfl
            have gL295_4 : jGet L295 4 = some (.int (i32 (last))) := eL295 ▸ jg_ne (by decide) gL_4 rfl
            have gL295_5 : jGet L295 5 = some (.int (i32 (kk))) := eL295 ▸ jg_ne (by decide) gL_5 rfl
            have gL295_6 : jGet L295 6 = some (.int (i32 (r254))) := eL295 ▸ jg_eq
            refine jx_ld (pc_q := 122) (l_q := L295) (st_q := [.ref 66]) rfl (jl_aloadn gL295_0) ?_
            refine jx_vr (pc_q := 125) (as := []) (st := []) rfl rfl rfl rfl ⟨rfl, rfl, Nat.le_of_ble_eq_true rfl⟩ rfl rfl (c_bad (dd := d) (hd := by omega) (hW := hW261)  (fk := fk2_256) (e_fk := show G252 16 = fk2_256 from (e266))    ) (fun o V_q hq => ?_)
            obtain ⟨r296, rfl, rfl, b297, q298⟩ := hq
            refine .inr ⟨_, rfl, ?_⟩
            rcases q298 with ⟨rfl, a299⟩ | ⟨rfl, a300⟩
            · have _q : True := trivial
              refine jx_if_eq (pc_q := 128) (tg := 130) rfl rfl rfl (by decide) (by decide) (fun h301 => ?_) (fun h301 => ?_)
              · have _q := h301
                exact absurd h301 (by omega)
              · have _q := h301
                refine jx_ar (pc_q := 129) (st_q := [.int (i32 (0))]) rfl rfl rfl rfl ?_
                refine jx_rt (v := some (.int (i32 (0)))) rfl rfl rfl rfl rfl rfl ?_
                exact ⟨_, _, _, at2_255, fk2_256, nd2_258, ln, ec2_260, rfl, rfl, hW261, hF278, hP279, by omega, (e265), (e266), (e268), ((hF262.1 9 rfl).trans (fx_9)), e270, by omega, by omega, by omega, by omega, by omega, by first | exact Or.inl (⟨by omega, by omega, by omega⟩)⟩
            · have _q : True := trivial
              exfalso
              omega
          · have _q : True := trivial
            refine jx_ld (pc_q := 121) (l_q := jSto1 L 6 (.int (i32 (r254)))) (st_q := []) rfl rfl ?_
            obtain ⟨L302, eL302⟩ : ∃ q, q = jSto1 L 6 (.int (i32 (r254))) := ⟨_, rfl⟩
            rw [← eL302]
            have gL302_0 : jGet L302 0 = some (.ref 66) := eL302 ▸ jg_ne (by decide) gL_0 rfl
            have gL302_1 : jGet L302 1 = some (.int (i32 (s))) := eL302 ▸ jg_ne (by decide) gL_1 rfl
            have gL302_2 : jGet L302 2 = some (.int (i32 (n))) := eL302 ▸ jg_ne (by decide) gL_2 rfl
            have gL302_3 : jGet L302 3 = some (.int (i32 (many))) := eL302 ▸ jg_ne (by decide) gL_3 rfl
            have gL302_4 : jGet L302 4 = some (.int (i32 (last))) := eL302 ▸ jg_ne (by decide) gL_4 rfl
            have gL302_5 : jGet L302 5 = some (.int (i32 (kk))) := eL302 ▸ jg_ne (by decide) gL_5 rfl
            have gL302_6 : jGet L302 6 = some (.int (i32 (r254))) := eL302 ▸ jg_eq
            refine jx_ld (pc_q := 122) (l_q := L302) (st_q := [.ref 66]) rfl (jl_aloadn gL302_0) ?_
            refine jx_vr (pc_q := 125) (as := []) (st := []) rfl rfl rfl rfl ⟨rfl, rfl, Nat.le_of_ble_eq_true rfl⟩ rfl rfl (c_bad (dd := d) (hd := by omega) (hW := hW261)  (fk := fk2_256) (e_fk := show G252 16 = fk2_256 from (e266))    ) (fun o V_q hq => ?_)
            obtain ⟨r303, rfl, rfl, b304, q305⟩ := hq
            refine .inr ⟨_, rfl, ?_⟩
            rcases q305 with ⟨rfl, a306⟩ | ⟨rfl, a307⟩
            · have _q : True := trivial
              exfalso
              omega
            · have _q : True := trivial
              refine jx_if_eq (pc_q := 128) (tg := 130) rfl rfl rfl (by decide) (by decide) (fun h308 => ?_) (fun h308 => ?_)
              · have _q := h308
                refine jx_ld (pc_q := 132) (l_q := L302) (st_q := [.int (i32 (last))]) rfl (jl_iload gL302_4) ?_
                refine jx_if_ne (pc_q := 135) (tg := 146) rfl rfl rfl (Int.le_trans (by decide : (-2147483648 : Int) ≤ -2147483648) rx_last.1) (Int.le_trans rx_last.2 (by decide : (2147483647 : Int) ≤ 2147483647)) (fun h309 => ?_) (fun h309 => ?_)
                · have _q := h309
                  refine jx_ld (pc_q := 147) (l_q := L302) (st_q := [.ref 66]) rfl (jl_aloadn gL302_0) ?_
                  refine jr_get (pc_q := 150) (i := 39) (v := .ref 89) rfl rfl (by decide) rfl rfl ?_
                  refine jx_ld (pc_q := 152) (l_q := L302) (st_q := [.int (i32 (last)), .ref 89]) rfl (jl_iload gL302_4) ?_
                  refine jx_ld (pc_q := 154) (l_q := L302) (st_q := [.int (i32 (r254)), .int (i32 (last)), .ref 89]) rfl (jl_iload gL302_6) ?_
                  refine jr_st (pc_q := 155) (i := 22) (m := 7000) (z := last) (y := r254) rfl (by decide) rfl (by decide) (by omega) (by omega) rfl ?_
                  have hW311 : Wk G252 (uA A253 22 (last).toNat (r254)) := Wk_a hW261 (show (-2147483648 : Int) ≤ r254 by omega) (show r254 ≤ (2147483647 : Int) by omega)
                  have hF312 := Fr_a (z := r254) (k := 22) (n := (last).toNat) hF278 (by decide)
                  obtain ⟨A310, eA310⟩ : ∃ q, q = uA A253 22 (last).toNat (r254) := ⟨_, rfl⟩
                  rw [← eA310]
                  rw [← eA310] at hW311 hF312
                  have q313 : A310 22 (last).toNat = r254 := by rw [eA310]; exact uA_eq
                  have hP314 : Pf nd A A310 := eA310 ▸ Pf_a hP279 (z := last) (by omega) (by omega)
                  have sf315 : ND A310 (n) (25) (nu) (0) (0) (0) (Ax 21 (n).toNat) (0) := ND_ag (by omega) (Ag_st eA310 (by omega) (by omega)) sf280
                  have sf316 : CA A310 Vs sb (n) (r254) ((kk + 1)) (pp) (n + 1) (nd2_258) := CA_two eA310 (by omega) (by omega) (by omega) a291 a292 sf281
                  have sf317 : NdM A310 (nd) (nd1) (sy) := NdM_st eA310 (by decide) sf282
                  have sf318 : wA A310 Vs sb (pp + kk) (r254) (nd1) (nd2_258) := wA_ag (by omega) (Sg_ne eA310 rfl) (Ax_ag (Ag_st eA310 (by omega) (by omega))) a291
                  have sf319 : NX A310 (r254) := NX_ag (by omega) (Ag_st eA310 (by omega) (by omega)) a292
                  have sf320 : NdM A310 (nd1) (nd2_258) (sy) := NdM_st eA310 (by decide) a294
                  have ec321 : ecn A310 (G252 31) = ec2_260 := (ecn_e ((congrFun eA310 15).trans (uA_ne (by decide)))).trans e270
                  refine jx_ld (pc_q := 157) (l_q := L302) (st_q := [.int (i32 (r254))]) rfl (jl_iload gL302_6) ?_
                  refine jx_ld (pc_q := 159) (l_q := jSto1 L302 4 (.int (i32 (r254)))) (st_q := []) rfl rfl ?_
                  obtain ⟨L322, eL322⟩ : ∃ q, q = jSto1 L302 4 (.int (i32 (r254))) := ⟨_, rfl⟩
                  rw [← eL322]
                  have gL322_0 : jGet L322 0 = some (.ref 66) := eL322 ▸ jg_ne (by decide) gL302_0 rfl
                  have gL322_1 : jGet L322 1 = some (.int (i32 (s))) := eL322 ▸ jg_ne (by decide) gL302_1 rfl
                  have gL322_2 : jGet L322 2 = some (.int (i32 (n))) := eL322 ▸ jg_ne (by decide) gL302_2 rfl
                  have gL322_3 : jGet L322 3 = some (.int (i32 (many))) := eL322 ▸ jg_ne (by decide) gL302_3 rfl
                  have gL322_5 : jGet L322 5 = some (.int (i32 (kk))) := eL322 ▸ jg_ne (by decide) gL302_5 rfl
                  have gL322_6 : jGet L322 6 = some (.int (i32 (r254))) := eL322 ▸ jg_ne (by decide) gL302_6 rfl
                  have gL322_4 : jGet L322 4 = some (.int (i32 (r254))) := eL322 ▸ jg_eq
                  refine jx_inc (pc_q := 162) (l_q := jSto1 L322 5 (.int (i32 ((kk + (1)))))) (x := kk) rfl gL322_5 (by decide) rfl rfl ?_
                  obtain ⟨L323, eL323⟩ : ∃ q, q = jSto1 L322 5 (.int (i32 ((kk + (1))))) := ⟨_, rfl⟩
                  rw [← eL323]
                  have gL323_0 : jGet L323 0 = some (.ref 66) := eL323 ▸ jg_ne (by decide) gL322_0 rfl
                  have gL323_1 : jGet L323 1 = some (.int (i32 (s))) := eL323 ▸ jg_ne (by decide) gL322_1 rfl
                  have gL323_2 : jGet L323 2 = some (.int (i32 (n))) := eL323 ▸ jg_ne (by decide) gL322_2 rfl
                  have gL323_3 : jGet L323 3 = some (.int (i32 (many))) := eL323 ▸ jg_ne (by decide) gL322_3 rfl
                  have gL323_6 : jGet L323 6 = some (.int (i32 (r254))) := eL323 ▸ jg_ne (by decide) gL322_6 rfl
                  have gL323_4 : jGet L323 4 = some (.int (i32 (r254))) := eL323 ▸ jg_ne (by decide) gL322_4 rfl
                  have gL323_5 : jGet L323 5 = some (.int (i32 ((kk + (1))))) := eL323 ▸ jg_eq
                  refine jx_ld (pc_q := 163) (l_q := L323) (st_q := [.ref 66]) rfl (jl_aloadn gL323_0) ?_
                  refine jx_ar (pc_q := 165) (st_q := [.int (i32 (44)), .ref 66]) rfl rfl rfl rfl ?_
                  have b324 : (-2147483648 : Int) ≤ G252 13 ∧ G252 13 ≤ 2147483647 := hW261.1 13
                  refine jx_vr (pc_q := 168) (as := [.int (i32 (44))]) (st := []) rfl rfl rfl rfl ⟨rfl, rfl, Nat.le_of_ble_eq_true rfl⟩ rfl rfl (c_is (dd := d) (hd := by omega) (hW := hW311) (k := 44) (tk := tk2_259) (e_tk := show G252 11 = tk2_259 from (e269)) (tn := G252 13) (e_tn := show G252 13 = G252 13 from rfl)  (h_k := ⟨(by decide), (by decide)⟩)  ) (fun o V_q hq => ?_)
                  obtain ⟨r325, rfl, rfl, b326, q327⟩ := hq
                  refine .inr ⟨_, rfl, ?_⟩
                  rcases q327 with ⟨rfl, a328, a329, a330⟩ | rfl
                  · have _q : True := trivial
                    refine jx_if_eq (pc_q := 171) (tg := 194) rfl rfl rfl (by decide) (by decide) (fun h331 => ?_) (fun h331 => ?_)
                    · have _q := h331
                      exact absurd h331 (by omega)
                    · have _q := h331
                      refine jx_ld (pc_q := 173) (l_q := L323) (st_q := [.int (i32 ((kk + (1))))]) rfl (jl_iload gL323_5) ?_
                      refine jx_ld (pc_q := 174) (l_q := L323) (st_q := [.int (i32 (many)), .int (i32 ((kk + (1))))]) rfl (jl_iloadn gL323_3) ?_
                      refine jx_icmp_ne (pc_q := 177) (tg := 186) rfl rfl rfl (by omega) (by omega) (Int.le_trans (by decide : (-2147483648 : Int) ≤ -2147483648) rx_many.1) (Int.le_trans rx_many.2 (by decide : (2147483647 : Int) ≤ 2147483647)) (fun h332 => ?_) (fun h332 => ?_)
                      · have _q := h332
                        refine jx_ld (pc_q := 187) (l_q := L323) (st_q := [.ref 66]) rfl (jl_aloadn gL323_0) ?_
                        refine jx_ar (pc_q := 188) (st_q := [.int (i32 (1)), .ref 66]) rfl rfl rfl rfl ?_
                        refine jx_vr (pc_q := 191) (as := [.int (i32 (1))]) (st := []) rfl rfl rfl rfl ⟨rfl, rfl, Nat.le_of_ble_eq_true rfl⟩ rfl rfl (c_need (dd := d) (hd := by omega) (hW := hW311) (g := 1) (ln := ln) (e_ln := show G252 9 = ln from ((hF262.1 9 rfl).trans (fx_9))) (le := le) (e_le := show A310 4 (ln).toNat = le from (congrFun (((congrFun eA310 4).trans (uA_ne (by decide))).trans ((hF262.2 4 rfl).trans (hFx.2 4 rfl))) _).trans (e_le)) (at0 := at2_255) (e_at0 := show G252 10 = at2_255 from (e265)) (fk := fk2_256) (e_fk := show G252 16 = fk2_256 from (e266)) (tk0 := tk2_259) (e_tk0 := show G252 11 = tk2_259 from (e269))  (h_g := ⟨(by decide), (by decide)⟩)  (p_0 := by omega)) (fun o V_q hq => ?_)
                        obtain ⟨G333, A334, at2_335, tk2_336, fk2_337, rfl, rfl, hW338, hF339, e340, e341, e342, p343, p344, q345⟩ := hq
                        have hF346 := Fr_tr hF312 hF339 (Fr_sub (by decide)) (Fr_sub (by decide))
                        have hP347 := Pf_f hP314 hF339 (by decide)
                        have sf348 : ND A334 (n) (25) (nu) (0) (0) (0) (Ax 21 (n).toNat) (0) := ND_ag (by omega) (Ag_fr hF339 (by decide)) sf315
                        have sf349 : CA A334 Vs sb (n) (r254) ((kk + 1)) (pp) (n + 1) (nd2_258) := CA_ag (by omega) (Sg_fr hF339 (by decide)) (Ag_fr hF339 (by decide)) (congrFun (hF339.2 21 rfl) _) sf316
                        have sf350 : NdM A334 (nd) (nd1) (sy) := NdM_f hF339 (by decide) sf317
                        have sf351 : wA A334 Vs sb (pp + kk) (r254) (nd1) (nd2_258) := wA_ag (by omega) (Sg_fr hF339 (by decide)) (Ax_ag (Ag_fr hF339 (by decide))) sf318
                        have sf352 : NX A334 (r254) := NX_ag (by omega) (Ag_fr hF339 (by decide)) sf319
                        have sf353 : NdM A334 (nd1) (nd2_258) (sy) := NdM_f hF339 (by decide) sf320
                        have ec354 : ecn A334 (G333 31) = ec2_260 := (ecn_f (hF339.2 15 rfl) (hF339.1 31 rfl)).trans ec321
                        have bat2_335 : (0 : Int) ≤ at2_335 ∧ at2_335 ≤ 3002 := e340 ▸ hW338.1 10
                        have ztk2_336 := tz_b tk2_336
                        have btk2_336 : (0 : Int) ≤ tk2_336 ∧ tk2_336 ≤ 5 := e341 ▸ hW338.1 11
                        have bfk2_337 : (0 : Int) ≤ fk2_337 ∧ fk2_337 ≤ 6 := e342 ▸ hW338.1 16
                        refine .inl ⟨rfl, ?_⟩
                        rcases q345 with ⟨a355, a356, a357, a358⟩ | ⟨a359, a360, a361, a362⟩
                        · have _q : True := trivial
                          refine jx_go (tg := 230) rfl rfl ?_
                          refine jx_go (tg := 88) rfl rfl ?_
                          have z363 := tz_f (tk2_336)
                          exact c_readCall_w_at_88p (X := X) (d := d) (Vs := Vs) (sb := sb) (pb := pb) (c0 := c0) (c1 := c1) (G := G) (A := A) (T := T) (s := s) (ln := ln) (le := le) (at0 := at0) (fk := fk) (op0 := op0) (nd := nd) (tk0 := tk0) (li := li) (kd := kd) (nu := nu) (mp := mp) (pp := pp) (ec := ec) (sy := sy) (hd := hd) (hW := hW) (e_ln := e_ln) (e_le := e_le) (e_at0 := e_at0) (e_fk := e_fk) (e_op0 := e_op0) (e_nd := e_nd) (e_tk0 := e_tk0) (e_li := e_li) (e_kd := e_kd) (e_nu := e_nu) (e_mp := e_mp) (e_pp := e_pp) (e_ec := e_ec) (e_sy := e_sy) (i_SV := i_SV) (i_PQ := i_PQ) (h_s := h_s) (p_0 := p_0) (p_1 := p_1) (p_2 := p_2) (p_3 := p_3) (p_4 := p_4) (p_5 := p_5) (p_6 := p_6) (p_7 := p_7) (p_8 := p_8) L323 G333 A334 (n) (many) (r254) ((kk + (1))) (at2_335) (tk2_336) (fk2_337) (nd2_258) (op2_257) (ec2_260) gL323_0 gL323_1 gL323_2 gL323_3 gL323_4 gL323_5 hW338 hF346 hP347 ((e340)) ((e341)) ((e342)) (((hF339.1 31 rfl).trans (e268))) (((hF339.1 15 rfl).trans (e267))) (ec354) (((hF339.1 9 rfl).trans ((hF262.1 9 rfl).trans (fx_9)))) (by omega) (by omega) (by omega) (by omega) (by omega) (by omega) (by omega) (by omega) (by omega) (by omega) (by omega)
                        · have _q : True := trivial
                          have pz364 : at2_255 + tz tk2_336 ≤ at2_335 := by omega
                          refine jx_go (tg := 230) rfl rfl ?_
                          refine jx_go (tg := 88) rfl rfl ?_
                          have z365 := tz_f (tk2_336)
                          exact ih88 _ (by omega) L323 G333 A334 (n) (many) (r254) ((kk + (1))) (at2_335) (tk2_336) (fk2_337) (nd2_258) (op2_257) (ec2_260) rfl gL323_0 gL323_1 gL323_2 gL323_3 gL323_4 gL323_5 hW338 hF346 hP347 ((e340)) ((e341)) ((e342)) (((hF339.1 31 rfl).trans (e268))) (((hF339.1 15 rfl).trans (e267))) (ec354) (((hF339.1 9 rfl).trans ((hF262.1 9 rfl).trans (fx_9)))) (by omega) (by omega) (by omega) (by omega) (by omega) (by omega) (by omega) (by omega) (by omega) (by omega) (by omega) (by omega) (by omega) (by omega) (by omega) (by omega) (by omega) (by omega) (by omega) ((ND_sf sf348)) ((CA_eq sf349 (by omega) (by omega) (by omega) (by omega) (by omega))) (by omega) (by omega) ((NdM_w (NdM_app (sy := sy) sf350 sf353 (by omega) (by omega) (by omega)) (by omega) (by omega) (by omega)))
                      · have _q := h332
                        refine jx_ld (pc_q := 178) (l_q := L323) (st_q := [.ref 66]) rfl (jl_aloadn gL323_0) ?_
                        refine jx_ar (pc_q := 179) (st_q := [.int (i32 (4)), .ref 66]) rfl rfl rfl rfl ?_
                        refine jx_ld (pc_q := 180) (l_q := L323) (st_q := [.ref 66, .int (i32 (4)), .ref 66]) rfl (jl_aloadn gL323_0) ?_
                        have b366 : (-3000 : Int) ≤ G252 12 ∧ G252 12 ≤ 3002 := hW261.1 12
                        refine jr_get (pc_q := 183) (i := 12) (v := .int (i32 (G252 12))) rfl rfl (by decide) rfl rfl ?_
                        refine jx_vr (pc_q := 186) (as := [.int (i32 (4)), .int (i32 (G252 12))]) (st := []) rfl rfl rfl rfl ⟨rfl, rfl, Nat.le_of_ble_eq_true rfl⟩ rfl rfl (c_fail (dd := d) (hd := by omega) (hW := hW311) (kind := 4) (place := G252 12) (fk := fk2_256) (e_fk := show G252 16 = fk2_256 from (e266))  (h_kind := ⟨(by decide), (by decide)⟩) (h_place := ⟨(Int.le_trans (by decide : (-2147483648 : Int) ≤ -3000) b366.1), (Int.le_trans b366.2 (by decide : (3002 : Int) ≤ 2147483647))⟩)  (p_0 := by omega) (p_1 := by omega)) (fun o V_q hq => ?_)
                        obtain ⟨G367, A368, fk2_369, rfl, rfl, hW370, hF371, e372, p373, -⟩ := hq
                        have hF375 := Fr_tr hF312 hF371 (Fr_sub (by decide)) (Fr_sub (by decide))
                        have hP376 := Pf_f hP314 hF371 (by decide)
                        have sf377 : ND A368 (n) (25) (nu) (0) (0) (0) (Ax 21 (n).toNat) (0) := ND_ag (by omega) (Ag_fr hF371 (by decide)) sf315
                        have sf378 : CA A368 Vs sb (n) (r254) ((kk + 1)) (pp) (n + 1) (nd2_258) := CA_ag (by omega) (Sg_fr hF371 (by decide)) (Ag_fr hF371 (by decide)) (congrFun (hF371.2 21 rfl) _) sf316
                        have sf379 : NdM A368 (nd) (nd1) (sy) := NdM_f hF371 (by decide) sf317
                        have sf380 : wA A368 Vs sb (pp + kk) (r254) (nd1) (nd2_258) := wA_ag (by omega) (Sg_fr hF371 (by decide)) (Ax_ag (Ag_fr hF371 (by decide))) sf318
                        have sf381 : NX A368 (r254) := NX_ag (by omega) (Ag_fr hF371 (by decide)) sf319
                        have sf382 : NdM A368 (nd1) (nd2_258) (sy) := NdM_f hF371 (by decide) sf320
                        have ec383 : ecn A368 (G367 31) = ec2_260 := (ecn_f (hF371.2 15 rfl) (hF371.1 31 rfl)).trans ec321
                        have bfk2_369 : (0 : Int) ≤ fk2_369 ∧ fk2_369 ≤ 6 := e372 ▸ hW370.1 16
                        refine .inl ⟨rfl, ?_⟩
                        refine jx_ld (pc_q := 187) (l_q := L323) (st_q := [.ref 66]) rfl (jl_aloadn gL323_0) ?_
                        refine jx_ar (pc_q := 188) (st_q := [.int (i32 (1)), .ref 66]) rfl rfl rfl rfl ?_
                        refine jx_vr (pc_q := 191) (as := [.int (i32 (1))]) (st := []) rfl rfl rfl rfl ⟨rfl, rfl, Nat.le_of_ble_eq_true rfl⟩ rfl rfl (c_need (dd := d) (hd := by omega) (hW := hW370) (g := 1) (ln := ln) (e_ln := show G367 9 = ln from ((hF371.1 9 rfl).trans ((hF262.1 9 rfl).trans (fx_9)))) (le := le) (e_le := show A368 4 (ln).toNat = le from (congrFun ((hF371.2 4 rfl).trans (((congrFun eA310 4).trans (uA_ne (by decide))).trans ((hF262.2 4 rfl).trans (hFx.2 4 rfl)))) _).trans (e_le)) (at0 := at2_255) (e_at0 := show G367 10 = at2_255 from ((hF371.1 10 rfl).trans (e265))) (fk := fk2_369) (e_fk := show G367 16 = fk2_369 from (e372)) (tk0 := tk2_259) (e_tk0 := show G367 11 = tk2_259 from ((hF371.1 11 rfl).trans (e269)))  (h_g := ⟨(by decide), (by decide)⟩)  (p_0 := by omega)) (fun o V_q hq => ?_)
                        obtain ⟨G384, A385, at2_386, tk2_387, fk2_388, rfl, rfl, hW389, hF390, e391, e392, e393, p394, p395, q396⟩ := hq
                        have hF397 := Fr_tr hF375 hF390 (Fr_sub (by decide)) (Fr_sub (by decide))
                        have hP398 := Pf_f hP376 hF390 (by decide)
                        have sf399 : ND A385 (n) (25) (nu) (0) (0) (0) (Ax 21 (n).toNat) (0) := ND_ag (by omega) (Ag_fr hF390 (by decide)) sf377
                        have sf400 : CA A385 Vs sb (n) (r254) ((kk + 1)) (pp) (n + 1) (nd2_258) := CA_ag (by omega) (Sg_fr hF390 (by decide)) (Ag_fr hF390 (by decide)) (congrFun (hF390.2 21 rfl) _) sf378
                        have sf401 : NdM A385 (nd) (nd1) (sy) := NdM_f hF390 (by decide) sf379
                        have sf402 : wA A385 Vs sb (pp + kk) (r254) (nd1) (nd2_258) := wA_ag (by omega) (Sg_fr hF390 (by decide)) (Ax_ag (Ag_fr hF390 (by decide))) sf380
                        have sf403 : NX A385 (r254) := NX_ag (by omega) (Ag_fr hF390 (by decide)) sf381
                        have sf404 : NdM A385 (nd1) (nd2_258) (sy) := NdM_f hF390 (by decide) sf382
                        have ec405 : ecn A385 (G384 31) = ec2_260 := (ecn_f (hF390.2 15 rfl) (hF390.1 31 rfl)).trans ec383
                        have bat2_386 : (0 : Int) ≤ at2_386 ∧ at2_386 ≤ 3002 := e391 ▸ hW389.1 10
                        have ztk2_387 := tz_b tk2_387
                        have btk2_387 : (0 : Int) ≤ tk2_387 ∧ tk2_387 ≤ 5 := e392 ▸ hW389.1 11
                        have bfk2_388 : (0 : Int) ≤ fk2_388 ∧ fk2_388 ≤ 6 := e393 ▸ hW389.1 16
                        refine .inl ⟨rfl, ?_⟩
                        rcases q396 with ⟨a406, a407, a408, a409⟩ | ⟨a410, a411, a412, a413⟩
                        · have _q : True := trivial
                          refine jx_go (tg := 230) rfl rfl ?_
                          refine jx_go (tg := 88) rfl rfl ?_
                          have z414 := tz_f (tk2_387)
                          exact c_readCall_w_at_88p (X := X) (d := d) (Vs := Vs) (sb := sb) (pb := pb) (c0 := c0) (c1 := c1) (G := G) (A := A) (T := T) (s := s) (ln := ln) (le := le) (at0 := at0) (fk := fk) (op0 := op0) (nd := nd) (tk0 := tk0) (li := li) (kd := kd) (nu := nu) (mp := mp) (pp := pp) (ec := ec) (sy := sy) (hd := hd) (hW := hW) (e_ln := e_ln) (e_le := e_le) (e_at0 := e_at0) (e_fk := e_fk) (e_op0 := e_op0) (e_nd := e_nd) (e_tk0 := e_tk0) (e_li := e_li) (e_kd := e_kd) (e_nu := e_nu) (e_mp := e_mp) (e_pp := e_pp) (e_ec := e_ec) (e_sy := e_sy) (i_SV := i_SV) (i_PQ := i_PQ) (h_s := h_s) (p_0 := p_0) (p_1 := p_1) (p_2 := p_2) (p_3 := p_3) (p_4 := p_4) (p_5 := p_5) (p_6 := p_6) (p_7 := p_7) (p_8 := p_8) L323 G384 A385 (n) (many) (r254) ((kk + (1))) (at2_386) (tk2_387) (fk2_388) (nd2_258) (op2_257) (ec2_260) gL323_0 gL323_1 gL323_2 gL323_3 gL323_4 gL323_5 hW389 hF397 hP398 ((e391)) ((e392)) ((e393)) (((hF390.1 31 rfl).trans ((hF371.1 31 rfl).trans (e268)))) (((hF390.1 15 rfl).trans ((hF371.1 15 rfl).trans (e267)))) (ec405) (((hF390.1 9 rfl).trans ((hF371.1 9 rfl).trans ((hF262.1 9 rfl).trans (fx_9))))) (by omega) (by omega) (by omega) (by omega) (by omega) (by omega) (by omega) (by omega) (by omega) (by omega) (by omega)
                        · have _q : True := trivial
                          exfalso
                          omega
                  · have _q : True := trivial
                    refine jx_if_eq (pc_q := 171) (tg := 194) rfl rfl rfl (by decide) (by decide) (fun h415 => ?_) (fun h415 => ?_)
                    · have _q := h415
                      refine jx_ld (pc_q := 195) (l_q := L323) (st_q := [.ref 66]) rfl (jl_aloadn gL323_0) ?_
                      refine jx_ar (pc_q := 197) (st_q := [.int (i32 (41)), .ref 66]) rfl rfl rfl rfl ?_
                      refine jx_vr (pc_q := 200) (as := [.int (i32 (41))]) (st := []) rfl rfl rfl rfl ⟨rfl, rfl, Nat.le_of_ble_eq_true rfl⟩ rfl rfl (c_is (dd := d) (hd := by omega) (hW := hW311) (k := 41) (tk := tk2_259) (e_tk := show G252 11 = tk2_259 from (e269)) (tn := G252 13) (e_tn := show G252 13 = G252 13 from rfl)  (h_k := ⟨(by decide), (by decide)⟩)  ) (fun o V_q hq => ?_)
                      obtain ⟨r416, rfl, rfl, b417, q418⟩ := hq
                      refine .inr ⟨_, rfl, ?_⟩
                      rcases q418 with ⟨rfl, a419, a420, a421⟩ | rfl
                      · have _q : True := trivial
                        refine jx_if_eq (pc_q := 203) (tg := 221) rfl rfl rfl (by decide) (by decide) (fun h422 => ?_) (fun h422 => ?_)
                        · have _q := h422
                          exact absurd h422 (by omega)
                        · have _q := h422
                          refine jx_ld (pc_q := 205) (l_q := L323) (st_q := [.int (i32 ((kk + (1))))]) rfl (jl_iload gL323_5) ?_
                          refine jx_ld (pc_q := 206) (l_q := L323) (st_q := [.int (i32 (many)), .int (i32 ((kk + (1))))]) rfl (jl_iloadn gL323_3) ?_
                          refine jx_icmp_ge (pc_q := 209) (tg := 230) rfl rfl rfl (by omega) (by omega) (Int.le_trans (by decide : (-2147483648 : Int) ≤ -2147483648) rx_many.1) (Int.le_trans rx_many.2 (by decide : (2147483647 : Int) ≤ 2147483647)) (fun h423 => ?_) (fun h423 => ?_)
                          · have _q := h423
                            refine jx_go (tg := 88) rfl rfl ?_
                            have z424 := tz_f (tk2_259)
                            exact ih88 _ (by omega) L323 G252 A310 (n) (many) (r254) ((kk + (1))) (at2_255) (tk2_259) (fk2_256) (nd2_258) (op2_257) (ec2_260) rfl gL323_0 gL323_1 gL323_2 gL323_3 gL323_4 gL323_5 hW311 hF312 hP314 ((e265)) ((e269)) ((e266)) ((e268)) ((e267)) (ec321) (((hF262.1 9 rfl).trans (fx_9))) (by omega) (by omega) (by omega) (by omega) (by omega) (by omega) (by omega) (by omega) (by omega) (by omega) (by omega) (by omega) (by omega) (by omega) (by omega) (by omega) (by omega) (by omega) (by omega) ((ND_sf sf315)) ((CA_eq sf316 (by omega) (by omega) (by omega) (by omega) (by omega))) (by omega) (by omega) ((NdM_w (NdM_app (sy := sy) sf317 sf320 (by omega) (by omega) (by omega)) (by omega) (by omega) (by omega)))
                          · have _q := h423
                            refine jx_ld (pc_q := 210) (l_q := L323) (st_q := [.ref 66]) rfl (jl_aloadn gL323_0) ?_
                            refine jx_ar (pc_q := 211) (st_q := [.int (i32 (4)), .ref 66]) rfl rfl rfl rfl ?_
                            refine jx_ld (pc_q := 212) (l_q := L323) (st_q := [.ref 66, .int (i32 (4)), .ref 66]) rfl (jl_aloadn gL323_0) ?_
                            have b425 : (-3000 : Int) ≤ G252 12 ∧ G252 12 ≤ 3002 := hW261.1 12
                            refine jr_get (pc_q := 215) (i := 12) (v := .int (i32 (G252 12))) rfl rfl (by decide) rfl rfl ?_
                            refine jx_vr (pc_q := 218) (as := [.int (i32 (4)), .int (i32 (G252 12))]) (st := []) rfl rfl rfl rfl ⟨rfl, rfl, Nat.le_of_ble_eq_true rfl⟩ rfl rfl (c_fail (dd := d) (hd := by omega) (hW := hW311) (kind := 4) (place := G252 12) (fk := fk2_256) (e_fk := show G252 16 = fk2_256 from (e266))  (h_kind := ⟨(by decide), (by decide)⟩) (h_place := ⟨(Int.le_trans (by decide : (-2147483648 : Int) ≤ -3000) b425.1), (Int.le_trans b425.2 (by decide : (3002 : Int) ≤ 2147483647))⟩)  (p_0 := by omega) (p_1 := by omega)) (fun o V_q hq => ?_)
                            obtain ⟨G426, A427, fk2_428, rfl, rfl, hW429, hF430, e431, p432, -⟩ := hq
                            have hF434 := Fr_tr hF312 hF430 (Fr_sub (by decide)) (Fr_sub (by decide))
                            have hP435 := Pf_f hP314 hF430 (by decide)
                            have sf436 : ND A427 (n) (25) (nu) (0) (0) (0) (Ax 21 (n).toNat) (0) := ND_ag (by omega) (Ag_fr hF430 (by decide)) sf315
                            have sf437 : CA A427 Vs sb (n) (r254) ((kk + 1)) (pp) (n + 1) (nd2_258) := CA_ag (by omega) (Sg_fr hF430 (by decide)) (Ag_fr hF430 (by decide)) (congrFun (hF430.2 21 rfl) _) sf316
                            have sf438 : NdM A427 (nd) (nd1) (sy) := NdM_f hF430 (by decide) sf317
                            have sf439 : wA A427 Vs sb (pp + kk) (r254) (nd1) (nd2_258) := wA_ag (by omega) (Sg_fr hF430 (by decide)) (Ax_ag (Ag_fr hF430 (by decide))) sf318
                            have sf440 : NX A427 (r254) := NX_ag (by omega) (Ag_fr hF430 (by decide)) sf319
                            have sf441 : NdM A427 (nd1) (nd2_258) (sy) := NdM_f hF430 (by decide) sf320
                            have ec442 : ecn A427 (G426 31) = ec2_260 := (ecn_f (hF430.2 15 rfl) (hF430.1 31 rfl)).trans ec321
                            have bfk2_428 : (0 : Int) ≤ fk2_428 ∧ fk2_428 ≤ 6 := e431 ▸ hW429.1 16
                            refine .inl ⟨rfl, ?_⟩
                            refine jx_go (tg := 230) rfl rfl ?_
                            refine jx_go (tg := 88) rfl rfl ?_
                            have z443 := tz_f (tk2_259)
                            exact c_readCall_w_at_88p (X := X) (d := d) (Vs := Vs) (sb := sb) (pb := pb) (c0 := c0) (c1 := c1) (G := G) (A := A) (T := T) (s := s) (ln := ln) (le := le) (at0 := at0) (fk := fk) (op0 := op0) (nd := nd) (tk0 := tk0) (li := li) (kd := kd) (nu := nu) (mp := mp) (pp := pp) (ec := ec) (sy := sy) (hd := hd) (hW := hW) (e_ln := e_ln) (e_le := e_le) (e_at0 := e_at0) (e_fk := e_fk) (e_op0 := e_op0) (e_nd := e_nd) (e_tk0 := e_tk0) (e_li := e_li) (e_kd := e_kd) (e_nu := e_nu) (e_mp := e_mp) (e_pp := e_pp) (e_ec := e_ec) (e_sy := e_sy) (i_SV := i_SV) (i_PQ := i_PQ) (h_s := h_s) (p_0 := p_0) (p_1 := p_1) (p_2 := p_2) (p_3 := p_3) (p_4 := p_4) (p_5 := p_5) (p_6 := p_6) (p_7 := p_7) (p_8 := p_8) L323 G426 A427 (n) (many) (r254) ((kk + (1))) (at2_255) (tk2_259) (fk2_428) (nd2_258) (op2_257) (ec2_260) gL323_0 gL323_1 gL323_2 gL323_3 gL323_4 gL323_5 hW429 hF434 hP435 (((hF430.1 10 rfl).trans (e265))) (((hF430.1 11 rfl).trans (e269))) ((e431)) (((hF430.1 31 rfl).trans (e268))) (((hF430.1 15 rfl).trans (e267))) (ec442) (((hF430.1 9 rfl).trans ((hF262.1 9 rfl).trans (fx_9)))) (by omega) (by omega) (by omega) (by omega) (by omega) (by omega) (by omega) (by omega) (by omega) (by omega) (by omega)
                      · have _q : True := trivial
                        refine jx_if_eq (pc_q := 203) (tg := 221) rfl rfl rfl (by decide) (by decide) (fun h444 => ?_) (fun h444 => ?_)
                        · have _q := h444
                          refine jx_ld (pc_q := 222) (l_q := L323) (st_q := [.ref 66]) rfl (jl_aloadn gL323_0) ?_
                          refine jx_ar (pc_q := 223) (st_q := [.int (i32 (1)), .ref 66]) rfl rfl rfl rfl ?_
                          refine jx_ld (pc_q := 224) (l_q := L323) (st_q := [.ref 66, .int (i32 (1)), .ref 66]) rfl (jl_aloadn gL323_0) ?_
                          have b445 : (-3000 : Int) ≤ G252 12 ∧ G252 12 ≤ 3002 := hW261.1 12
                          refine jr_get (pc_q := 227) (i := 12) (v := .int (i32 (G252 12))) rfl rfl (by decide) rfl rfl ?_
                          refine jx_vr (pc_q := 230) (as := [.int (i32 (1)), .int (i32 (G252 12))]) (st := []) rfl rfl rfl rfl ⟨rfl, rfl, Nat.le_of_ble_eq_true rfl⟩ rfl rfl (c_fail (dd := d) (hd := by omega) (hW := hW311) (kind := 1) (place := G252 12) (fk := fk2_256) (e_fk := show G252 16 = fk2_256 from (e266))  (h_kind := ⟨(by decide), (by decide)⟩) (h_place := ⟨(Int.le_trans (by decide : (-2147483648 : Int) ≤ -3000) b445.1), (Int.le_trans b445.2 (by decide : (3002 : Int) ≤ 2147483647))⟩)  (p_0 := by omega) (p_1 := by omega)) (fun o V_q hq => ?_)
                          obtain ⟨G446, A447, fk2_448, rfl, rfl, hW449, hF450, e451, p452, -⟩ := hq
                          have hF454 := Fr_tr hF312 hF450 (Fr_sub (by decide)) (Fr_sub (by decide))
                          have hP455 := Pf_f hP314 hF450 (by decide)
                          have sf456 : ND A447 (n) (25) (nu) (0) (0) (0) (Ax 21 (n).toNat) (0) := ND_ag (by omega) (Ag_fr hF450 (by decide)) sf315
                          have sf457 : CA A447 Vs sb (n) (r254) ((kk + 1)) (pp) (n + 1) (nd2_258) := CA_ag (by omega) (Sg_fr hF450 (by decide)) (Ag_fr hF450 (by decide)) (congrFun (hF450.2 21 rfl) _) sf316
                          have sf458 : NdM A447 (nd) (nd1) (sy) := NdM_f hF450 (by decide) sf317
                          have sf459 : wA A447 Vs sb (pp + kk) (r254) (nd1) (nd2_258) := wA_ag (by omega) (Sg_fr hF450 (by decide)) (Ax_ag (Ag_fr hF450 (by decide))) sf318
                          have sf460 : NX A447 (r254) := NX_ag (by omega) (Ag_fr hF450 (by decide)) sf319
                          have sf461 : NdM A447 (nd1) (nd2_258) (sy) := NdM_f hF450 (by decide) sf320
                          have ec462 : ecn A447 (G446 31) = ec2_260 := (ecn_f (hF450.2 15 rfl) (hF450.1 31 rfl)).trans ec321
                          have bfk2_448 : (0 : Int) ≤ fk2_448 ∧ fk2_448 ≤ 6 := e451 ▸ hW449.1 16
                          refine .inl ⟨rfl, ?_⟩
                          refine jx_go (tg := 88) rfl rfl ?_
                          have z463 := tz_f (tk2_259)
                          exact c_readCall_w_at_88p (X := X) (d := d) (Vs := Vs) (sb := sb) (pb := pb) (c0 := c0) (c1 := c1) (G := G) (A := A) (T := T) (s := s) (ln := ln) (le := le) (at0 := at0) (fk := fk) (op0 := op0) (nd := nd) (tk0 := tk0) (li := li) (kd := kd) (nu := nu) (mp := mp) (pp := pp) (ec := ec) (sy := sy) (hd := hd) (hW := hW) (e_ln := e_ln) (e_le := e_le) (e_at0 := e_at0) (e_fk := e_fk) (e_op0 := e_op0) (e_nd := e_nd) (e_tk0 := e_tk0) (e_li := e_li) (e_kd := e_kd) (e_nu := e_nu) (e_mp := e_mp) (e_pp := e_pp) (e_ec := e_ec) (e_sy := e_sy) (i_SV := i_SV) (i_PQ := i_PQ) (h_s := h_s) (p_0 := p_0) (p_1 := p_1) (p_2 := p_2) (p_3 := p_3) (p_4 := p_4) (p_5 := p_5) (p_6 := p_6) (p_7 := p_7) (p_8 := p_8) L323 G446 A447 (n) (many) (r254) ((kk + (1))) (at2_255) (tk2_259) (fk2_448) (nd2_258) (op2_257) (ec2_260) gL323_0 gL323_1 gL323_2 gL323_3 gL323_4 gL323_5 hW449 hF454 hP455 (((hF450.1 10 rfl).trans (e265))) (((hF450.1 11 rfl).trans (e269))) ((e451)) (((hF450.1 31 rfl).trans (e268))) (((hF450.1 15 rfl).trans (e267))) (ec462) (((hF450.1 9 rfl).trans ((hF262.1 9 rfl).trans (fx_9)))) (by omega) (by omega) (by omega) (by omega) (by omega) (by omega) (by omega) (by omega) (by omega) (by omega) (by omega)
                        · have _q := h444
                          exact absurd h444 (by omega)
                    · have _q := h415
                      exact absurd h415 (by omega)
                · have _q := h309
                  refine jx_ld (pc_q := 136) (l_q := L302) (st_q := [.ref 66]) rfl (jl_aloadn gL302_0) ?_
                  refine jr_get (pc_q := 139) (i := 38) (v := .ref 88) rfl rfl (by decide) rfl rfl ?_
                  refine jx_ld (pc_q := 140) (l_q := L302) (st_q := [.int (i32 (n)), .ref 88]) rfl (jl_iloadn gL302_2) ?_
                  refine jx_ld (pc_q := 142) (l_q := L302) (st_q := [.int (i32 (r254)), .int (i32 (n)), .ref 88]) rfl (jl_iload gL302_6) ?_
                  refine jr_st (pc_q := 143) (i := 21) (m := 7000) (z := n) (y := r254) rfl (by decide) rfl (by decide) (by omega) (by omega) rfl ?_
                  have hW465 : Wk G252 (uA A253 21 (n).toNat (r254)) := Wk_a hW261 (show (-2147483648 : Int) ≤ r254 by omega) (show r254 ≤ (2147483647 : Int) by omega)
                  have hF466 := Fr_a (z := r254) (k := 21) (n := (n).toNat) hF278 (by decide)
                  obtain ⟨A464, eA464⟩ : ∃ q, q = uA A253 21 (n).toNat (r254) := ⟨_, rfl⟩
                  rw [← eA464]
                  rw [← eA464] at hW465 hF466
                  have q467 : A464 21 (n).toNat = r254 := by rw [eA464]; exact uA_eq
                  have hP468 : Pf nd A A464 := eA464 ▸ Pf_a hP279 (z := n) (by omega) (by omega)
                  have sf469 : ND A464 (n) (25) (nu) (0) (0) (0) (r254) (0) := ND_f eA464 sf280
                  have sf470 : CA A464 Vs sb (n) (r254) ((kk + 1)) (pp) (n + 1) (nd2_258) := CA_one eA464 (by omega) (by omega) (by omega) a291 a292 (CA_0 (by omega) sf281)
                  have sf471 : NdM A464 (nd) (nd1) (sy) := NdM_st eA464 (by decide) sf282
                  have sf472 : wA A464 Vs sb (pp + kk) (r254) (nd1) (nd2_258) := wA_ag (by omega) (Sg_ne eA464 rfl) (Ax_ag (Ag_st eA464 (by omega) (by omega))) a291
                  have sf473 : NX A464 (r254) := NX_r eA464 (by decide) a292
                  have sf474 : NdM A464 (nd1) (nd2_258) (sy) := NdM_st eA464 (by decide) a294
                  have ec475 : ecn A464 (G252 31) = ec2_260 := (ecn_e ((congrFun eA464 15).trans (uA_ne (by decide)))).trans e270
                  refine jx_go (tg := 155) rfl rfl ?_
                  refine jx_ld (pc_q := 157) (l_q := L302) (st_q := [.int (i32 (r254))]) rfl (jl_iload gL302_6) ?_
                  refine jx_ld (pc_q := 159) (l_q := jSto1 L302 4 (.int (i32 (r254)))) (st_q := []) rfl rfl ?_
                  obtain ⟨L476, eL476⟩ : ∃ q, q = jSto1 L302 4 (.int (i32 (r254))) := ⟨_, rfl⟩
                  rw [← eL476]
                  have gL476_0 : jGet L476 0 = some (.ref 66) := eL476 ▸ jg_ne (by decide) gL302_0 rfl
                  have gL476_1 : jGet L476 1 = some (.int (i32 (s))) := eL476 ▸ jg_ne (by decide) gL302_1 rfl
                  have gL476_2 : jGet L476 2 = some (.int (i32 (n))) := eL476 ▸ jg_ne (by decide) gL302_2 rfl
                  have gL476_3 : jGet L476 3 = some (.int (i32 (many))) := eL476 ▸ jg_ne (by decide) gL302_3 rfl
                  have gL476_5 : jGet L476 5 = some (.int (i32 (kk))) := eL476 ▸ jg_ne (by decide) gL302_5 rfl
                  have gL476_6 : jGet L476 6 = some (.int (i32 (r254))) := eL476 ▸ jg_ne (by decide) gL302_6 rfl
                  have gL476_4 : jGet L476 4 = some (.int (i32 (r254))) := eL476 ▸ jg_eq
                  refine jx_inc (pc_q := 162) (l_q := jSto1 L476 5 (.int (i32 ((kk + (1)))))) (x := kk) rfl gL476_5 (by decide) rfl rfl ?_
                  obtain ⟨L477, eL477⟩ : ∃ q, q = jSto1 L476 5 (.int (i32 ((kk + (1))))) := ⟨_, rfl⟩
                  rw [← eL477]
                  have gL477_0 : jGet L477 0 = some (.ref 66) := eL477 ▸ jg_ne (by decide) gL476_0 rfl
                  have gL477_1 : jGet L477 1 = some (.int (i32 (s))) := eL477 ▸ jg_ne (by decide) gL476_1 rfl
                  have gL477_2 : jGet L477 2 = some (.int (i32 (n))) := eL477 ▸ jg_ne (by decide) gL476_2 rfl
                  have gL477_3 : jGet L477 3 = some (.int (i32 (many))) := eL477 ▸ jg_ne (by decide) gL476_3 rfl
                  have gL477_6 : jGet L477 6 = some (.int (i32 (r254))) := eL477 ▸ jg_ne (by decide) gL476_6 rfl
                  have gL477_4 : jGet L477 4 = some (.int (i32 (r254))) := eL477 ▸ jg_ne (by decide) gL476_4 rfl
                  have gL477_5 : jGet L477 5 = some (.int (i32 ((kk + (1))))) := eL477 ▸ jg_eq
                  refine jx_ld (pc_q := 163) (l_q := L477) (st_q := [.ref 66]) rfl (jl_aloadn gL477_0) ?_
                  refine jx_ar (pc_q := 165) (st_q := [.int (i32 (44)), .ref 66]) rfl rfl rfl rfl ?_
                  have b478 : (-2147483648 : Int) ≤ G252 13 ∧ G252 13 ≤ 2147483647 := hW261.1 13
                  refine jx_vr (pc_q := 168) (as := [.int (i32 (44))]) (st := []) rfl rfl rfl rfl ⟨rfl, rfl, Nat.le_of_ble_eq_true rfl⟩ rfl rfl (c_is (dd := d) (hd := by omega) (hW := hW465) (k := 44) (tk := tk2_259) (e_tk := show G252 11 = tk2_259 from (e269)) (tn := G252 13) (e_tn := show G252 13 = G252 13 from rfl)  (h_k := ⟨(by decide), (by decide)⟩)  ) (fun o V_q hq => ?_)
                  obtain ⟨r479, rfl, rfl, b480, q481⟩ := hq
                  refine .inr ⟨_, rfl, ?_⟩
                  rcases q481 with ⟨rfl, a482, a483, a484⟩ | rfl
                  · have _q : True := trivial
                    refine jx_if_eq (pc_q := 171) (tg := 194) rfl rfl rfl (by decide) (by decide) (fun h485 => ?_) (fun h485 => ?_)
                    · have _q := h485
                      exact absurd h485 (by omega)
                    · have _q := h485
                      refine jx_ld (pc_q := 173) (l_q := L477) (st_q := [.int (i32 ((kk + (1))))]) rfl (jl_iload gL477_5) ?_
                      refine jx_ld (pc_q := 174) (l_q := L477) (st_q := [.int (i32 (many)), .int (i32 ((kk + (1))))]) rfl (jl_iloadn gL477_3) ?_
                      refine jx_icmp_ne (pc_q := 177) (tg := 186) rfl rfl rfl (by omega) (by omega) (Int.le_trans (by decide : (-2147483648 : Int) ≤ -2147483648) rx_many.1) (Int.le_trans rx_many.2 (by decide : (2147483647 : Int) ≤ 2147483647)) (fun h486 => ?_) (fun h486 => ?_)
                      · have _q := h486
                        refine jx_ld (pc_q := 187) (l_q := L477) (st_q := [.ref 66]) rfl (jl_aloadn gL477_0) ?_
                        refine jx_ar (pc_q := 188) (st_q := [.int (i32 (1)), .ref 66]) rfl rfl rfl rfl ?_
                        refine jx_vr (pc_q := 191) (as := [.int (i32 (1))]) (st := []) rfl rfl rfl rfl ⟨rfl, rfl, Nat.le_of_ble_eq_true rfl⟩ rfl rfl (c_need (dd := d) (hd := by omega) (hW := hW465) (g := 1) (ln := ln) (e_ln := show G252 9 = ln from ((hF262.1 9 rfl).trans (fx_9))) (le := le) (e_le := show A464 4 (ln).toNat = le from (congrFun (((congrFun eA464 4).trans (uA_ne (by decide))).trans ((hF262.2 4 rfl).trans (hFx.2 4 rfl))) _).trans (e_le)) (at0 := at2_255) (e_at0 := show G252 10 = at2_255 from (e265)) (fk := fk2_256) (e_fk := show G252 16 = fk2_256 from (e266)) (tk0 := tk2_259) (e_tk0 := show G252 11 = tk2_259 from (e269))  (h_g := ⟨(by decide), (by decide)⟩)  (p_0 := by omega)) (fun o V_q hq => ?_)
                        obtain ⟨G487, A488, at2_489, tk2_490, fk2_491, rfl, rfl, hW492, hF493, e494, e495, e496, p497, p498, q499⟩ := hq
                        have hF500 := Fr_tr hF466 hF493 (Fr_sub (by decide)) (Fr_sub (by decide))
                        have hP501 := Pf_f hP468 hF493 (by decide)
                        have sf502 : ND A488 (n) (25) (nu) (0) (0) (0) (r254) (0) := ND_ag (by omega) (Ag_fr hF493 (by decide)) sf469
                        have sf503 : CA A488 Vs sb (n) (r254) ((kk + 1)) (pp) (n + 1) (nd2_258) := CA_ag (by omega) (Sg_fr hF493 (by decide)) (Ag_fr hF493 (by decide)) (congrFun (hF493.2 21 rfl) _) sf470
                        have sf504 : NdM A488 (nd) (nd1) (sy) := NdM_f hF493 (by decide) sf471
                        have sf505 : wA A488 Vs sb (pp + kk) (r254) (nd1) (nd2_258) := wA_ag (by omega) (Sg_fr hF493 (by decide)) (Ax_ag (Ag_fr hF493 (by decide))) sf472
                        have sf506 : NX A488 (r254) := NX_ag (by omega) (Ag_fr hF493 (by decide)) sf473
                        have sf507 : NdM A488 (nd1) (nd2_258) (sy) := NdM_f hF493 (by decide) sf474
                        have ec508 : ecn A488 (G487 31) = ec2_260 := (ecn_f (hF493.2 15 rfl) (hF493.1 31 rfl)).trans ec475
                        have bat2_489 : (0 : Int) ≤ at2_489 ∧ at2_489 ≤ 3002 := e494 ▸ hW492.1 10
                        have ztk2_490 := tz_b tk2_490
                        have btk2_490 : (0 : Int) ≤ tk2_490 ∧ tk2_490 ≤ 5 := e495 ▸ hW492.1 11
                        have bfk2_491 : (0 : Int) ≤ fk2_491 ∧ fk2_491 ≤ 6 := e496 ▸ hW492.1 16
                        refine .inl ⟨rfl, ?_⟩
                        rcases q499 with ⟨a509, a510, a511, a512⟩ | ⟨a513, a514, a515, a516⟩
                        · have _q : True := trivial
                          refine jx_go (tg := 230) rfl rfl ?_
                          refine jx_go (tg := 88) rfl rfl ?_
                          have z517 := tz_f (tk2_490)
                          exact c_readCall_w_at_88p (X := X) (d := d) (Vs := Vs) (sb := sb) (pb := pb) (c0 := c0) (c1 := c1) (G := G) (A := A) (T := T) (s := s) (ln := ln) (le := le) (at0 := at0) (fk := fk) (op0 := op0) (nd := nd) (tk0 := tk0) (li := li) (kd := kd) (nu := nu) (mp := mp) (pp := pp) (ec := ec) (sy := sy) (hd := hd) (hW := hW) (e_ln := e_ln) (e_le := e_le) (e_at0 := e_at0) (e_fk := e_fk) (e_op0 := e_op0) (e_nd := e_nd) (e_tk0 := e_tk0) (e_li := e_li) (e_kd := e_kd) (e_nu := e_nu) (e_mp := e_mp) (e_pp := e_pp) (e_ec := e_ec) (e_sy := e_sy) (i_SV := i_SV) (i_PQ := i_PQ) (h_s := h_s) (p_0 := p_0) (p_1 := p_1) (p_2 := p_2) (p_3 := p_3) (p_4 := p_4) (p_5 := p_5) (p_6 := p_6) (p_7 := p_7) (p_8 := p_8) L477 G487 A488 (n) (many) (r254) ((kk + (1))) (at2_489) (tk2_490) (fk2_491) (nd2_258) (op2_257) (ec2_260) gL477_0 gL477_1 gL477_2 gL477_3 gL477_4 gL477_5 hW492 hF500 hP501 ((e494)) ((e495)) ((e496)) (((hF493.1 31 rfl).trans (e268))) (((hF493.1 15 rfl).trans (e267))) (ec508) (((hF493.1 9 rfl).trans ((hF262.1 9 rfl).trans (fx_9)))) (by omega) (by omega) (by omega) (by omega) (by omega) (by omega) (by omega) (by omega) (by omega) (by omega) (by omega)
                        · have _q : True := trivial
                          have pz518 : at2_255 + tz tk2_490 ≤ at2_489 := by omega
                          refine jx_go (tg := 230) rfl rfl ?_
                          refine jx_go (tg := 88) rfl rfl ?_
                          have z519 := tz_f (tk2_490)
                          exact ih88 _ (by omega) L477 G487 A488 (n) (many) (r254) ((kk + (1))) (at2_489) (tk2_490) (fk2_491) (nd2_258) (op2_257) (ec2_260) rfl gL477_0 gL477_1 gL477_2 gL477_3 gL477_4 gL477_5 hW492 hF500 hP501 ((e494)) ((e495)) ((e496)) (((hF493.1 31 rfl).trans (e268))) (((hF493.1 15 rfl).trans (e267))) (ec508) (((hF493.1 9 rfl).trans ((hF262.1 9 rfl).trans (fx_9)))) (by omega) (by omega) (by omega) (by omega) (by omega) (by omega) (by omega) (by omega) (by omega) (by omega) (by omega) (by omega) (by omega) (by omega) (by omega) (by omega) (by omega) (by omega) (by omega) ((ND_sf sf502)) ((CA_eq sf503 (by omega) (by omega) (by omega) (by omega) (by omega))) (by omega) (by omega) ((NdM_w (NdM_app (sy := sy) sf504 sf507 (by omega) (by omega) (by omega)) (by omega) (by omega) (by omega)))
                      · have _q := h486
                        refine jx_ld (pc_q := 178) (l_q := L477) (st_q := [.ref 66]) rfl (jl_aloadn gL477_0) ?_
                        refine jx_ar (pc_q := 179) (st_q := [.int (i32 (4)), .ref 66]) rfl rfl rfl rfl ?_
                        refine jx_ld (pc_q := 180) (l_q := L477) (st_q := [.ref 66, .int (i32 (4)), .ref 66]) rfl (jl_aloadn gL477_0) ?_
                        have b520 : (-3000 : Int) ≤ G252 12 ∧ G252 12 ≤ 3002 := hW261.1 12
                        refine jr_get (pc_q := 183) (i := 12) (v := .int (i32 (G252 12))) rfl rfl (by decide) rfl rfl ?_
                        refine jx_vr (pc_q := 186) (as := [.int (i32 (4)), .int (i32 (G252 12))]) (st := []) rfl rfl rfl rfl ⟨rfl, rfl, Nat.le_of_ble_eq_true rfl⟩ rfl rfl (c_fail (dd := d) (hd := by omega) (hW := hW465) (kind := 4) (place := G252 12) (fk := fk2_256) (e_fk := show G252 16 = fk2_256 from (e266))  (h_kind := ⟨(by decide), (by decide)⟩) (h_place := ⟨(Int.le_trans (by decide : (-2147483648 : Int) ≤ -3000) b520.1), (Int.le_trans b520.2 (by decide : (3002 : Int) ≤ 2147483647))⟩)  (p_0 := by omega) (p_1 := by omega)) (fun o V_q hq => ?_)
                        obtain ⟨G521, A522, fk2_523, rfl, rfl, hW524, hF525, e526, p527, -⟩ := hq
                        have hF529 := Fr_tr hF466 hF525 (Fr_sub (by decide)) (Fr_sub (by decide))
                        have hP530 := Pf_f hP468 hF525 (by decide)
                        have sf531 : ND A522 (n) (25) (nu) (0) (0) (0) (r254) (0) := ND_ag (by omega) (Ag_fr hF525 (by decide)) sf469
                        have sf532 : CA A522 Vs sb (n) (r254) ((kk + 1)) (pp) (n + 1) (nd2_258) := CA_ag (by omega) (Sg_fr hF525 (by decide)) (Ag_fr hF525 (by decide)) (congrFun (hF525.2 21 rfl) _) sf470
                        have sf533 : NdM A522 (nd) (nd1) (sy) := NdM_f hF525 (by decide) sf471
                        have sf534 : wA A522 Vs sb (pp + kk) (r254) (nd1) (nd2_258) := wA_ag (by omega) (Sg_fr hF525 (by decide)) (Ax_ag (Ag_fr hF525 (by decide))) sf472
                        have sf535 : NX A522 (r254) := NX_ag (by omega) (Ag_fr hF525 (by decide)) sf473
                        have sf536 : NdM A522 (nd1) (nd2_258) (sy) := NdM_f hF525 (by decide) sf474
                        have ec537 : ecn A522 (G521 31) = ec2_260 := (ecn_f (hF525.2 15 rfl) (hF525.1 31 rfl)).trans ec475
                        have bfk2_523 : (0 : Int) ≤ fk2_523 ∧ fk2_523 ≤ 6 := e526 ▸ hW524.1 16
                        refine .inl ⟨rfl, ?_⟩
                        refine jx_ld (pc_q := 187) (l_q := L477) (st_q := [.ref 66]) rfl (jl_aloadn gL477_0) ?_
                        refine jx_ar (pc_q := 188) (st_q := [.int (i32 (1)), .ref 66]) rfl rfl rfl rfl ?_
                        refine jx_vr (pc_q := 191) (as := [.int (i32 (1))]) (st := []) rfl rfl rfl rfl ⟨rfl, rfl, Nat.le_of_ble_eq_true rfl⟩ rfl rfl (c_need (dd := d) (hd := by omega) (hW := hW524) (g := 1) (ln := ln) (e_ln := show G521 9 = ln from ((hF525.1 9 rfl).trans ((hF262.1 9 rfl).trans (fx_9)))) (le := le) (e_le := show A522 4 (ln).toNat = le from (congrFun ((hF525.2 4 rfl).trans (((congrFun eA464 4).trans (uA_ne (by decide))).trans ((hF262.2 4 rfl).trans (hFx.2 4 rfl)))) _).trans (e_le)) (at0 := at2_255) (e_at0 := show G521 10 = at2_255 from ((hF525.1 10 rfl).trans (e265))) (fk := fk2_523) (e_fk := show G521 16 = fk2_523 from (e526)) (tk0 := tk2_259) (e_tk0 := show G521 11 = tk2_259 from ((hF525.1 11 rfl).trans (e269)))  (h_g := ⟨(by decide), (by decide)⟩)  (p_0 := by omega)) (fun o V_q hq => ?_)
                        obtain ⟨G538, A539, at2_540, tk2_541, fk2_542, rfl, rfl, hW543, hF544, e545, e546, e547, p548, p549, q550⟩ := hq
                        have hF551 := Fr_tr hF529 hF544 (Fr_sub (by decide)) (Fr_sub (by decide))
                        have hP552 := Pf_f hP530 hF544 (by decide)
                        have sf553 : ND A539 (n) (25) (nu) (0) (0) (0) (r254) (0) := ND_ag (by omega) (Ag_fr hF544 (by decide)) sf531
                        have sf554 : CA A539 Vs sb (n) (r254) ((kk + 1)) (pp) (n + 1) (nd2_258) := CA_ag (by omega) (Sg_fr hF544 (by decide)) (Ag_fr hF544 (by decide)) (congrFun (hF544.2 21 rfl) _) sf532
                        have sf555 : NdM A539 (nd) (nd1) (sy) := NdM_f hF544 (by decide) sf533
                        have sf556 : wA A539 Vs sb (pp + kk) (r254) (nd1) (nd2_258) := wA_ag (by omega) (Sg_fr hF544 (by decide)) (Ax_ag (Ag_fr hF544 (by decide))) sf534
                        have sf557 : NX A539 (r254) := NX_ag (by omega) (Ag_fr hF544 (by decide)) sf535
                        have sf558 : NdM A539 (nd1) (nd2_258) (sy) := NdM_f hF544 (by decide) sf536
                        have ec559 : ecn A539 (G538 31) = ec2_260 := (ecn_f (hF544.2 15 rfl) (hF544.1 31 rfl)).trans ec537
                        have bat2_540 : (0 : Int) ≤ at2_540 ∧ at2_540 ≤ 3002 := e545 ▸ hW543.1 10
                        have ztk2_541 := tz_b tk2_541
                        have btk2_541 : (0 : Int) ≤ tk2_541 ∧ tk2_541 ≤ 5 := e546 ▸ hW543.1 11
                        have bfk2_542 : (0 : Int) ≤ fk2_542 ∧ fk2_542 ≤ 6 := e547 ▸ hW543.1 16
                        refine .inl ⟨rfl, ?_⟩
                        rcases q550 with ⟨a560, a561, a562, a563⟩ | ⟨a564, a565, a566, a567⟩
                        · have _q : True := trivial
                          refine jx_go (tg := 230) rfl rfl ?_
                          refine jx_go (tg := 88) rfl rfl ?_
                          have z568 := tz_f (tk2_541)
                          exact c_readCall_w_at_88p (X := X) (d := d) (Vs := Vs) (sb := sb) (pb := pb) (c0 := c0) (c1 := c1) (G := G) (A := A) (T := T) (s := s) (ln := ln) (le := le) (at0 := at0) (fk := fk) (op0 := op0) (nd := nd) (tk0 := tk0) (li := li) (kd := kd) (nu := nu) (mp := mp) (pp := pp) (ec := ec) (sy := sy) (hd := hd) (hW := hW) (e_ln := e_ln) (e_le := e_le) (e_at0 := e_at0) (e_fk := e_fk) (e_op0 := e_op0) (e_nd := e_nd) (e_tk0 := e_tk0) (e_li := e_li) (e_kd := e_kd) (e_nu := e_nu) (e_mp := e_mp) (e_pp := e_pp) (e_ec := e_ec) (e_sy := e_sy) (i_SV := i_SV) (i_PQ := i_PQ) (h_s := h_s) (p_0 := p_0) (p_1 := p_1) (p_2 := p_2) (p_3 := p_3) (p_4 := p_4) (p_5 := p_5) (p_6 := p_6) (p_7 := p_7) (p_8 := p_8) L477 G538 A539 (n) (many) (r254) ((kk + (1))) (at2_540) (tk2_541) (fk2_542) (nd2_258) (op2_257) (ec2_260) gL477_0 gL477_1 gL477_2 gL477_3 gL477_4 gL477_5 hW543 hF551 hP552 ((e545)) ((e546)) ((e547)) (((hF544.1 31 rfl).trans ((hF525.1 31 rfl).trans (e268)))) (((hF544.1 15 rfl).trans ((hF525.1 15 rfl).trans (e267)))) (ec559) (((hF544.1 9 rfl).trans ((hF525.1 9 rfl).trans ((hF262.1 9 rfl).trans (fx_9))))) (by omega) (by omega) (by omega) (by omega) (by omega) (by omega) (by omega) (by omega) (by omega) (by omega) (by omega)
                        · have _q : True := trivial
                          exfalso
                          omega
                  · have _q : True := trivial
                    refine jx_if_eq (pc_q := 171) (tg := 194) rfl rfl rfl (by decide) (by decide) (fun h569 => ?_) (fun h569 => ?_)
                    · have _q := h569
                      refine jx_ld (pc_q := 195) (l_q := L477) (st_q := [.ref 66]) rfl (jl_aloadn gL477_0) ?_
                      refine jx_ar (pc_q := 197) (st_q := [.int (i32 (41)), .ref 66]) rfl rfl rfl rfl ?_
                      refine jx_vr (pc_q := 200) (as := [.int (i32 (41))]) (st := []) rfl rfl rfl rfl ⟨rfl, rfl, Nat.le_of_ble_eq_true rfl⟩ rfl rfl (c_is (dd := d) (hd := by omega) (hW := hW465) (k := 41) (tk := tk2_259) (e_tk := show G252 11 = tk2_259 from (e269)) (tn := G252 13) (e_tn := show G252 13 = G252 13 from rfl)  (h_k := ⟨(by decide), (by decide)⟩)  ) (fun o V_q hq => ?_)
                      obtain ⟨r570, rfl, rfl, b571, q572⟩ := hq
                      refine .inr ⟨_, rfl, ?_⟩
                      rcases q572 with ⟨rfl, a573, a574, a575⟩ | rfl
                      · have _q : True := trivial
                        refine jx_if_eq (pc_q := 203) (tg := 221) rfl rfl rfl (by decide) (by decide) (fun h576 => ?_) (fun h576 => ?_)
                        · have _q := h576
                          exact absurd h576 (by omega)
                        · have _q := h576
                          refine jx_ld (pc_q := 205) (l_q := L477) (st_q := [.int (i32 ((kk + (1))))]) rfl (jl_iload gL477_5) ?_
                          refine jx_ld (pc_q := 206) (l_q := L477) (st_q := [.int (i32 (many)), .int (i32 ((kk + (1))))]) rfl (jl_iloadn gL477_3) ?_
                          refine jx_icmp_ge (pc_q := 209) (tg := 230) rfl rfl rfl (by omega) (by omega) (Int.le_trans (by decide : (-2147483648 : Int) ≤ -2147483648) rx_many.1) (Int.le_trans rx_many.2 (by decide : (2147483647 : Int) ≤ 2147483647)) (fun h577 => ?_) (fun h577 => ?_)
                          · have _q := h577
                            refine jx_go (tg := 88) rfl rfl ?_
                            have z578 := tz_f (tk2_259)
                            exact ih88 _ (by omega) L477 G252 A464 (n) (many) (r254) ((kk + (1))) (at2_255) (tk2_259) (fk2_256) (nd2_258) (op2_257) (ec2_260) rfl gL477_0 gL477_1 gL477_2 gL477_3 gL477_4 gL477_5 hW465 hF466 hP468 ((e265)) ((e269)) ((e266)) ((e268)) ((e267)) (ec475) (((hF262.1 9 rfl).trans (fx_9))) (by omega) (by omega) (by omega) (by omega) (by omega) (by omega) (by omega) (by omega) (by omega) (by omega) (by omega) (by omega) (by omega) (by omega) (by omega) (by omega) (by omega) (by omega) (by omega) ((ND_sf sf469)) ((CA_eq sf470 (by omega) (by omega) (by omega) (by omega) (by omega))) (by omega) (by omega) ((NdM_w (NdM_app (sy := sy) sf471 sf474 (by omega) (by omega) (by omega)) (by omega) (by omega) (by omega)))
                          · have _q := h577
                            refine jx_ld (pc_q := 210) (l_q := L477) (st_q := [.ref 66]) rfl (jl_aloadn gL477_0) ?_
                            refine jx_ar (pc_q := 211) (st_q := [.int (i32 (4)), .ref 66]) rfl rfl rfl rfl ?_
                            refine jx_ld (pc_q := 212) (l_q := L477) (st_q := [.ref 66, .int (i32 (4)), .ref 66]) rfl (jl_aloadn gL477_0) ?_
                            have b579 : (-3000 : Int) ≤ G252 12 ∧ G252 12 ≤ 3002 := hW261.1 12
                            refine jr_get (pc_q := 215) (i := 12) (v := .int (i32 (G252 12))) rfl rfl (by decide) rfl rfl ?_
                            refine jx_vr (pc_q := 218) (as := [.int (i32 (4)), .int (i32 (G252 12))]) (st := []) rfl rfl rfl rfl ⟨rfl, rfl, Nat.le_of_ble_eq_true rfl⟩ rfl rfl (c_fail (dd := d) (hd := by omega) (hW := hW465) (kind := 4) (place := G252 12) (fk := fk2_256) (e_fk := show G252 16 = fk2_256 from (e266))  (h_kind := ⟨(by decide), (by decide)⟩) (h_place := ⟨(Int.le_trans (by decide : (-2147483648 : Int) ≤ -3000) b579.1), (Int.le_trans b579.2 (by decide : (3002 : Int) ≤ 2147483647))⟩)  (p_0 := by omega) (p_1 := by omega)) (fun o V_q hq => ?_)
                            obtain ⟨G580, A581, fk2_582, rfl, rfl, hW583, hF584, e585, p586, -⟩ := hq
                            have hF588 := Fr_tr hF466 hF584 (Fr_sub (by decide)) (Fr_sub (by decide))
                            have hP589 := Pf_f hP468 hF584 (by decide)
                            have sf590 : ND A581 (n) (25) (nu) (0) (0) (0) (r254) (0) := ND_ag (by omega) (Ag_fr hF584 (by decide)) sf469
                            have sf591 : CA A581 Vs sb (n) (r254) ((kk + 1)) (pp) (n + 1) (nd2_258) := CA_ag (by omega) (Sg_fr hF584 (by decide)) (Ag_fr hF584 (by decide)) (congrFun (hF584.2 21 rfl) _) sf470
                            have sf592 : NdM A581 (nd) (nd1) (sy) := NdM_f hF584 (by decide) sf471
                            have sf593 : wA A581 Vs sb (pp + kk) (r254) (nd1) (nd2_258) := wA_ag (by omega) (Sg_fr hF584 (by decide)) (Ax_ag (Ag_fr hF584 (by decide))) sf472
                            have sf594 : NX A581 (r254) := NX_ag (by omega) (Ag_fr hF584 (by decide)) sf473
                            have sf595 : NdM A581 (nd1) (nd2_258) (sy) := NdM_f hF584 (by decide) sf474
                            have ec596 : ecn A581 (G580 31) = ec2_260 := (ecn_f (hF584.2 15 rfl) (hF584.1 31 rfl)).trans ec475
                            have bfk2_582 : (0 : Int) ≤ fk2_582 ∧ fk2_582 ≤ 6 := e585 ▸ hW583.1 16
                            refine .inl ⟨rfl, ?_⟩
                            refine jx_go (tg := 230) rfl rfl ?_
                            refine jx_go (tg := 88) rfl rfl ?_
                            have z597 := tz_f (tk2_259)
                            exact c_readCall_w_at_88p (X := X) (d := d) (Vs := Vs) (sb := sb) (pb := pb) (c0 := c0) (c1 := c1) (G := G) (A := A) (T := T) (s := s) (ln := ln) (le := le) (at0 := at0) (fk := fk) (op0 := op0) (nd := nd) (tk0 := tk0) (li := li) (kd := kd) (nu := nu) (mp := mp) (pp := pp) (ec := ec) (sy := sy) (hd := hd) (hW := hW) (e_ln := e_ln) (e_le := e_le) (e_at0 := e_at0) (e_fk := e_fk) (e_op0 := e_op0) (e_nd := e_nd) (e_tk0 := e_tk0) (e_li := e_li) (e_kd := e_kd) (e_nu := e_nu) (e_mp := e_mp) (e_pp := e_pp) (e_ec := e_ec) (e_sy := e_sy) (i_SV := i_SV) (i_PQ := i_PQ) (h_s := h_s) (p_0 := p_0) (p_1 := p_1) (p_2 := p_2) (p_3 := p_3) (p_4 := p_4) (p_5 := p_5) (p_6 := p_6) (p_7 := p_7) (p_8 := p_8) L477 G580 A581 (n) (many) (r254) ((kk + (1))) (at2_255) (tk2_259) (fk2_582) (nd2_258) (op2_257) (ec2_260) gL477_0 gL477_1 gL477_2 gL477_3 gL477_4 gL477_5 hW583 hF588 hP589 (((hF584.1 10 rfl).trans (e265))) (((hF584.1 11 rfl).trans (e269))) ((e585)) (((hF584.1 31 rfl).trans (e268))) (((hF584.1 15 rfl).trans (e267))) (ec596) (((hF584.1 9 rfl).trans ((hF262.1 9 rfl).trans (fx_9)))) (by omega) (by omega) (by omega) (by omega) (by omega) (by omega) (by omega) (by omega) (by omega) (by omega) (by omega)
                      · have _q : True := trivial
                        refine jx_if_eq (pc_q := 203) (tg := 221) rfl rfl rfl (by decide) (by decide) (fun h598 => ?_) (fun h598 => ?_)
                        · have _q := h598
                          refine jx_ld (pc_q := 222) (l_q := L477) (st_q := [.ref 66]) rfl (jl_aloadn gL477_0) ?_
                          refine jx_ar (pc_q := 223) (st_q := [.int (i32 (1)), .ref 66]) rfl rfl rfl rfl ?_
                          refine jx_ld (pc_q := 224) (l_q := L477) (st_q := [.ref 66, .int (i32 (1)), .ref 66]) rfl (jl_aloadn gL477_0) ?_
                          have b599 : (-3000 : Int) ≤ G252 12 ∧ G252 12 ≤ 3002 := hW261.1 12
                          refine jr_get (pc_q := 227) (i := 12) (v := .int (i32 (G252 12))) rfl rfl (by decide) rfl rfl ?_
                          refine jx_vr (pc_q := 230) (as := [.int (i32 (1)), .int (i32 (G252 12))]) (st := []) rfl rfl rfl rfl ⟨rfl, rfl, Nat.le_of_ble_eq_true rfl⟩ rfl rfl (c_fail (dd := d) (hd := by omega) (hW := hW465) (kind := 1) (place := G252 12) (fk := fk2_256) (e_fk := show G252 16 = fk2_256 from (e266))  (h_kind := ⟨(by decide), (by decide)⟩) (h_place := ⟨(Int.le_trans (by decide : (-2147483648 : Int) ≤ -3000) b599.1), (Int.le_trans b599.2 (by decide : (3002 : Int) ≤ 2147483647))⟩)  (p_0 := by omega) (p_1 := by omega)) (fun o V_q hq => ?_)
                          obtain ⟨G600, A601, fk2_602, rfl, rfl, hW603, hF604, e605, p606, -⟩ := hq
                          have hF608 := Fr_tr hF466 hF604 (Fr_sub (by decide)) (Fr_sub (by decide))
                          have hP609 := Pf_f hP468 hF604 (by decide)
                          have sf610 : ND A601 (n) (25) (nu) (0) (0) (0) (r254) (0) := ND_ag (by omega) (Ag_fr hF604 (by decide)) sf469
                          have sf611 : CA A601 Vs sb (n) (r254) ((kk + 1)) (pp) (n + 1) (nd2_258) := CA_ag (by omega) (Sg_fr hF604 (by decide)) (Ag_fr hF604 (by decide)) (congrFun (hF604.2 21 rfl) _) sf470
                          have sf612 : NdM A601 (nd) (nd1) (sy) := NdM_f hF604 (by decide) sf471
                          have sf613 : wA A601 Vs sb (pp + kk) (r254) (nd1) (nd2_258) := wA_ag (by omega) (Sg_fr hF604 (by decide)) (Ax_ag (Ag_fr hF604 (by decide))) sf472
                          have sf614 : NX A601 (r254) := NX_ag (by omega) (Ag_fr hF604 (by decide)) sf473
                          have sf615 : NdM A601 (nd1) (nd2_258) (sy) := NdM_f hF604 (by decide) sf474
                          have ec616 : ecn A601 (G600 31) = ec2_260 := (ecn_f (hF604.2 15 rfl) (hF604.1 31 rfl)).trans ec475
                          have bfk2_602 : (0 : Int) ≤ fk2_602 ∧ fk2_602 ≤ 6 := e605 ▸ hW603.1 16
                          refine .inl ⟨rfl, ?_⟩
                          refine jx_go (tg := 88) rfl rfl ?_
                          have z617 := tz_f (tk2_259)
                          exact c_readCall_w_at_88p (X := X) (d := d) (Vs := Vs) (sb := sb) (pb := pb) (c0 := c0) (c1 := c1) (G := G) (A := A) (T := T) (s := s) (ln := ln) (le := le) (at0 := at0) (fk := fk) (op0 := op0) (nd := nd) (tk0 := tk0) (li := li) (kd := kd) (nu := nu) (mp := mp) (pp := pp) (ec := ec) (sy := sy) (hd := hd) (hW := hW) (e_ln := e_ln) (e_le := e_le) (e_at0 := e_at0) (e_fk := e_fk) (e_op0 := e_op0) (e_nd := e_nd) (e_tk0 := e_tk0) (e_li := e_li) (e_kd := e_kd) (e_nu := e_nu) (e_mp := e_mp) (e_pp := e_pp) (e_ec := e_ec) (e_sy := e_sy) (i_SV := i_SV) (i_PQ := i_PQ) (h_s := h_s) (p_0 := p_0) (p_1 := p_1) (p_2 := p_2) (p_3 := p_3) (p_4 := p_4) (p_5 := p_5) (p_6 := p_6) (p_7 := p_7) (p_8 := p_8) L477 G600 A601 (n) (many) (r254) ((kk + (1))) (at2_255) (tk2_259) (fk2_602) (nd2_258) (op2_257) (ec2_260) gL477_0 gL477_1 gL477_2 gL477_3 gL477_4 gL477_5 hW603 hF608 hP609 (((hF604.1 10 rfl).trans (e265))) (((hF604.1 11 rfl).trans (e269))) ((e605)) (((hF604.1 31 rfl).trans (e268))) (((hF604.1 15 rfl).trans (e267))) (ec616) (((hF604.1 9 rfl).trans ((hF262.1 9 rfl).trans (fx_9)))) (by omega) (by omega) (by omega) (by omega) (by omega) (by omega) (by omega) (by omega) (by omega) (by omega) (by omega)
                        · have _q := h598
                          exact absurd h598 (by omega)
                    · have _q := h569
                      exact absurd h569 (by omega)
              · have _q := h308
                exact absurd h308 (by omega)
set_option maxRecDepth 20000 in
set_option maxHeartbeats 4000000 in
theorem c_readCall_w_at_57 {X : jX} {d : Nat} {Vs : Nat → Prop} {sb pb : Int} {c0 c1 : jC} {G : Nat → Int} {A : Nat → Nat → Int} {T : jH} {s : Int} {ln le at0 fk op0 nd tk0 li kd nu mp pp ec sy : Int} (hd : 71 ≤ d + 1) (hW : Wk G A) (e_ln : G 9 = ln) (e_le : A 4 (ln).toNat = le) (e_at0 : G 10 = at0) (e_fk : G 16 = fk) (e_op0 : G 15 = op0) (e_nd : G 31 = nd) (e_tk0 : G 11 = tk0) (e_li : G 3 = li) (e_kd : A 7 (s).toNat = kd) (e_nu : A 12 (s).toNat = nu) (e_mp : A 30 (nu).toNat = mp) (e_pp : A 29 (nu).toNat = pp) (e_ec : ecn A (G 31) = ec) (e_sy : G 19 = sy) (i_SV : SV Vs sb G A) (i_PQ : PQ Vs sb pb G A) (h_s : (-2147483648 : Int) ≤ s ∧ s ≤ 2147483647) (p_0 : 0 ≤ op0 ∧ op0 ≤ 8) (p_1 : fk = 0) (p_2 : nd ≤ 2 * at0 - tz tk0 + 42) (p_3 : at0 ≤ le) (p_4 : ln < li) (p_5 : 0 ≤ s ∧ s ≤ 201) (p_6 : 1 ≤ tk0) (p_7 : kd = 14) (p_8 : SY Vs sb (s)) : ∀ (L : jL) (Gx : Nat → Int) (Ax : Nat → Nat → Int) (n many at1 tk1 fk1 nd1 op1 ec1 : Int), jGet L 0 = some (.ref 66) → jGet L 1 = some (.int (i32 (s))) → jGet L 2 = some (.int (i32 n)) → jGet L 3 = some (.int (i32 many)) → Wk Gx Ax → Fr [9, 10, 11, 12, 13, 14, 15, 16, 17, 18, 31] [15, 16, 17, 18, 19, 20, 21, 22, 24, 28] G A Gx Ax → Pf nd A Ax → Gx 10 = at1 → Gx 11 = tk1 → Gx 16 = fk1 → Gx 31 = nd1 → Gx 15 = op1 → ecn Ax (Gx 31) = ec1 → Gx 9 = ln → ((-2147483648 : Int) ≤ n ∧ n ≤ 2147483647) → ((-2147483648 : Int) ≤ many ∧ many ≤ 2147483647) → (fk1 = 0) → (at0 ≤ at1) → (at1 ≤ le) → (nd ≤ n ∧ n ≤ 6998) → (nd ≤ nd1 ∧ n < nd1) → (0 ≤ many ∧ many ≤ 6) → (op1 = op0 + 1) → (op1 ≤ 8) → (nd1 - nd ≤ (2 * at1 - tz tk1) - (2 * at0 - tz tk0)) → (many = mp) → (1 ≤ many) → (nd1 = n + 1) → (ND Ax (n) (25) (nu) (0) (0) (0) (0) (0)) → (nd1 - nd + 5 * (ec1 - ec) ≤ (2 * at1 - tz tk1) - (2 * at0 - tz tk0)) → (NdM Ax (nd) (nd1) (sy)) → wj X d jm305 (57, L, [], rV c0 c1 Gx Ax T) (fun o V_q => ∃ (G_q : Nat → Int) (A_q : Nat → Nat → Int) (r : Int) (at2 : Int) (fk2 : Int) (nd2 : Int) (ln2 : Int) (ec2 : Int), V_q = rV c0 c1 G_q A_q T ∧ o = .inl (some (.int (i32 r))) ∧ Wk G_q A_q ∧ Fr [9, 10, 11, 12, 13, 14, 15, 16, 17, 18, 31] [15, 16, 17, 18, 19, 20, 21, 22, 24, 28] G A G_q A_q ∧ Pf nd A A_q ∧ ((-2147483648 : Int) ≤ r ∧ r ≤ 2147483647) ∧ G_q 10 = at2 ∧ G_q 16 = fk2 ∧ G_q 31 = nd2 ∧ G_q 9 = ln2 ∧ ecn A_q (G_q 31) = ec2 ∧ (at0 ≤ at2) ∧ (at2 ≤ le) ∧ (nd ≤ nd2) ∧ (0 ≤ r) ∧ (r ≤ nd2) ∧ (((1 ≤ fk2) ∧ (ln2 = ln) ∧ (nd2 - nd ≤ 2 * at2 - 2 * at0 + 8)) ∨ ((fk2 = 0) ∧ (ln2 = ln + 1) ∧ (nd2 - nd ≤ 2 * at2 - (2 * at0 - tz tk0) + 0) ∧ (nd ≤ r) ∧ (r < nd2) ∧ (wL A_q sb pb Vs (r) (nd) (nd2)) ∧ (NX A_q (r)) ∧ (nd2 - nd + 5 * (ec2 - ec) ≤ 2 * at2 - (2 * at0 - tz tk0) + 0) ∧ (NdM A_q (nd) (nd2) (sy))))) := by
  have hF0 : Fr [9, 10, 11, 12, 13, 14, 15, 16, 17, 18, 31] [15, 16, 17, 18, 19, 20, 21, 22, 24, 28] G A G A := Fr_rf
  have hP0 : Pf nd A A := Pf_rf
  have b_ln : (0 : Int) ≤ ln ∧ ln ≤ 3000 := e_ln ▸ hW.1 9
  have b_le : (0 : Int) ≤ le ∧ le ≤ 3000 := e_le ▸ hW.2 4 _
  have b_at0 : (0 : Int) ≤ at0 ∧ at0 ≤ 3002 := e_at0 ▸ hW.1 10
  have b_fk : (0 : Int) ≤ fk ∧ fk ≤ 6 := e_fk ▸ hW.1 16
  have b_op0 : (-2147483648 : Int) ≤ op0 ∧ op0 ≤ 2147483647 := e_op0 ▸ hW.1 15
  have b_nd : (0 : Int) ≤ nd ∧ nd ≤ 6999 := e_nd ▸ hW.1 31
  have z_tk0 := tz_f tk0
  have b_tk0 : (0 : Int) ≤ tk0 ∧ tk0 ≤ 5 := e_tk0 ▸ hW.1 11
  have b_li : (0 : Int) ≤ li ∧ li ≤ 3000 := e_li ▸ hW.1 3
  have b_kd : (0 : Int) ≤ kd ∧ kd ≤ 14 := e_kd ▸ hW.2 7 _
  have b_nu : (0 : Int) ≤ nu ∧ nu ≤ 24 := e_nu ▸ hW.2 12 _
  have b_mp : (0 : Int) ≤ mp ∧ mp ≤ 6 := e_mp ▸ hW.2 30 _
  have b_pp : (0 : Int) ≤ pp ∧ pp ≤ 202 := e_pp ▸ hW.2 29 _
  have b_sy : (0 : Int) ≤ sy ∧ sy ≤ 202 := e_sy ▸ hW.1 19
  have pq := PQ_at i_PQ p_8 (e_kd.trans (by omega)) e_nu e_mp e_pp
  intro L Gx Ax n many at1 tk1 fk1 nd1 op1 ec1 gL_0 gL_1 gL_2 gL_3 hWx hFx hPx ex_at1 ex_tk1 ex_fk1 ex_nd1 ex_op1 ex_ec1 fx_9 rx_n rx_many iv_0 iv_1 iv_2 iv_3 iv_4 iv_5 iv_6 iv_7 iv_8 iv_9 iv_10 iv_11 iv_12 iv_13 iv_14
  have b_at1 : (0 : Int) ≤ at1 ∧ at1 ≤ 3002 := ex_at1 ▸ hWx.1 10
  have z_tk1 := tz_f tk1
  have b_tk1 : (0 : Int) ≤ tk1 ∧ tk1 ≤ 5 := ex_tk1 ▸ hWx.1 11
  have b_fk1 : (0 : Int) ≤ fk1 ∧ fk1 ≤ 6 := ex_fk1 ▸ hWx.1 16
  have b_nd1 : (0 : Int) ≤ nd1 ∧ nd1 ≤ 6999 := ex_nd1 ▸ hWx.1 31
  have b_op1 : (-2147483648 : Int) ≤ op1 ∧ op1 ≤ 2147483647 := ex_op1 ▸ hWx.1 15
  refine jx_ld (pc_q := 58) (l_q := L) (st_q := [.ref 66]) rfl (jl_aloadn gL_0) ?_
  refine jx_vr (pc_q := 61) (as := []) (st := []) rfl rfl rfl rfl ⟨rfl, rfl, Nat.le_of_ble_eq_true rfl⟩ rfl rfl (c_bad (dd := d) (hd := by omega) (hW := hWx)  (fk := fk1) (e_fk := show Gx 16 = fk1 from (ex_fk1))    ) (fun o V_q hq => ?_)
  obtain ⟨r618, rfl, rfl, b619, q620⟩ := hq
  refine .inr ⟨_, rfl, ?_⟩
  rcases q620 with ⟨rfl, a621⟩ | ⟨rfl, a622⟩
  · have _q : True := trivial
    exfalso
    omega
  · have _q : True := trivial
    refine jx_if_ne (pc_q := 64) (tg := 82) rfl rfl rfl (by decide) (by decide) (fun h623 => ?_) (fun h623 => ?_)
    · have _q := h623
      exact absurd h623 (by omega)
    · have _q := h623
      refine jx_ld (pc_q := 65) (l_q := L) (st_q := [.ref 66]) rfl (jl_aloadn gL_0) ?_
      refine jx_ar (pc_q := 67) (st_q := [.int (i32 (41)), .ref 66]) rfl rfl rfl rfl ?_
      have b624 : (-2147483648 : Int) ≤ Gx 13 ∧ Gx 13 ≤ 2147483647 := hWx.1 13
      refine jx_vr (pc_q := 70) (as := [.int (i32 (41))]) (st := []) rfl rfl rfl rfl ⟨rfl, rfl, Nat.le_of_ble_eq_true rfl⟩ rfl rfl (c_is (dd := d) (hd := by omega) (hW := hWx) (k := 41) (tk := tk1) (e_tk := show Gx 11 = tk1 from (ex_tk1)) (tn := Gx 13) (e_tn := show Gx 13 = Gx 13 from rfl)  (h_k := ⟨(by decide), (by decide)⟩)  ) (fun o V_q hq => ?_)
      obtain ⟨r625, rfl, rfl, b626, q627⟩ := hq
      refine .inr ⟨_, rfl, ?_⟩
      rcases q627 with ⟨rfl, a628, a629, a630⟩ | rfl
      · have _q : True := trivial
        refine jx_if_eq (pc_q := 73) (tg := 82) rfl rfl rfl (by decide) (by decide) (fun h631 => ?_) (fun h631 => ?_)
        · have _q := h631
          exact absurd h631 (by omega)
        · have _q := h631
          refine jx_ld (pc_q := 74) (l_q := L) (st_q := [.ref 66]) rfl (jl_aloadn gL_0) ?_
          refine jx_ar (pc_q := 75) (st_q := [.int (i32 (4)), .ref 66]) rfl rfl rfl rfl ?_
          refine jx_ld (pc_q := 76) (l_q := L) (st_q := [.ref 66, .int (i32 (4)), .ref 66]) rfl (jl_aloadn gL_0) ?_
          have b632 : (-3000 : Int) ≤ Gx 12 ∧ Gx 12 ≤ 3002 := hWx.1 12
          refine jr_get (pc_q := 79) (i := 12) (v := .int (i32 (Gx 12))) rfl rfl (by decide) rfl rfl ?_
          refine jx_vr (pc_q := 82) (as := [.int (i32 (4)), .int (i32 (Gx 12))]) (st := []) rfl rfl rfl rfl ⟨rfl, rfl, Nat.le_of_ble_eq_true rfl⟩ rfl rfl (c_fail (dd := d) (hd := by omega) (hW := hWx) (kind := 4) (place := Gx 12) (fk := fk1) (e_fk := show Gx 16 = fk1 from (ex_fk1))  (h_kind := ⟨(by decide), (by decide)⟩) (h_place := ⟨(Int.le_trans (by decide : (-2147483648 : Int) ≤ -3000) b632.1), (Int.le_trans b632.2 (by decide : (3002 : Int) ≤ 2147483647))⟩)  (p_0 := by omega) (p_1 := by omega)) (fun o V_q hq => ?_)
          obtain ⟨G633, A634, fk2_635, rfl, rfl, hW636, hF637, e638, p639, -⟩ := hq
          have hF641 := Fr_tr hFx hF637 (Fr_sub (by decide)) (Fr_sub (by decide))
          have hP642 := Pf_f hPx hF637 (by decide)
          have sf643 : ND A634 (n) (25) (nu) (0) (0) (0) (0) (0) := ND_ag (by omega) (Ag_fr hF637 (by decide)) iv_12
          have sf644 : NdM A634 (nd) (nd1) (sy) := NdM_f hF637 (by decide) iv_14
          have ec645 : ecn A634 (G633 31) = ec1 := (ecn_f (hF637.2 15 rfl) (hF637.1 31 rfl)).trans ex_ec1
          have bfk2_635 : (0 : Int) ≤ fk2_635 ∧ fk2_635 ≤ 6 := e638 ▸ hW636.1 16
          refine .inl ⟨rfl, ?_⟩
          refine jx_ar (pc_q := 83) (st_q := [.int (i32 (0))]) rfl rfl rfl rfl ?_
          refine jx_ld (pc_q := 85) (l_q := jSto1 L 4 (.int (i32 (0)))) (st_q := []) rfl rfl ?_
          obtain ⟨L646, eL646⟩ : ∃ q, q = jSto1 L 4 (.int (i32 (0))) := ⟨_, rfl⟩
          rw [← eL646]
          have gL646_0 : jGet L646 0 = some (.ref 66) := eL646 ▸ jg_ne (by decide) gL_0 rfl
          have gL646_1 : jGet L646 1 = some (.int (i32 (s))) := eL646 ▸ jg_ne (by decide) gL_1 rfl
          have gL646_2 : jGet L646 2 = some (.int (i32 (n))) := eL646 ▸ jg_ne (by decide) gL_2 rfl
          have gL646_3 : jGet L646 3 = some (.int (i32 (many))) := eL646 ▸ jg_ne (by decide) gL_3 rfl
          have gL646_4 : jGet L646 4 = some (.int (i32 (0))) := eL646 ▸ jg_eq
          refine jx_ar (pc_q := 86) (st_q := [.int (i32 (0))]) rfl rfl rfl rfl ?_
          refine jx_ld (pc_q := 88) (l_q := jSto1 L646 5 (.int (i32 (0)))) (st_q := []) rfl rfl ?_
          obtain ⟨L647, eL647⟩ : ∃ q, q = jSto1 L646 5 (.int (i32 (0))) := ⟨_, rfl⟩
          rw [← eL647]
          have gL647_0 : jGet L647 0 = some (.ref 66) := eL647 ▸ jg_ne (by decide) gL646_0 rfl
          have gL647_1 : jGet L647 1 = some (.int (i32 (s))) := eL647 ▸ jg_ne (by decide) gL646_1 rfl
          have gL647_2 : jGet L647 2 = some (.int (i32 (n))) := eL647 ▸ jg_ne (by decide) gL646_2 rfl
          have gL647_3 : jGet L647 3 = some (.int (i32 (many))) := eL647 ▸ jg_ne (by decide) gL646_3 rfl
          have gL647_4 : jGet L647 4 = some (.int (i32 (0))) := eL647 ▸ jg_ne (by decide) gL646_4 rfl
          have gL647_5 : jGet L647 5 = some (.int (i32 (0))) := eL647 ▸ jg_eq
          have z648 := tz_f (tk1)
          exact c_readCall_w_at_88p (X := X) (d := d) (Vs := Vs) (sb := sb) (pb := pb) (c0 := c0) (c1 := c1) (G := G) (A := A) (T := T) (s := s) (ln := ln) (le := le) (at0 := at0) (fk := fk) (op0 := op0) (nd := nd) (tk0 := tk0) (li := li) (kd := kd) (nu := nu) (mp := mp) (pp := pp) (ec := ec) (sy := sy) (hd := hd) (hW := hW) (e_ln := e_ln) (e_le := e_le) (e_at0 := e_at0) (e_fk := e_fk) (e_op0 := e_op0) (e_nd := e_nd) (e_tk0 := e_tk0) (e_li := e_li) (e_kd := e_kd) (e_nu := e_nu) (e_mp := e_mp) (e_pp := e_pp) (e_ec := e_ec) (e_sy := e_sy) (i_SV := i_SV) (i_PQ := i_PQ) (h_s := h_s) (p_0 := p_0) (p_1 := p_1) (p_2 := p_2) (p_3 := p_3) (p_4 := p_4) (p_5 := p_5) (p_6 := p_6) (p_7 := p_7) (p_8 := p_8) L647 G633 A634 (n) (many) (0) (0) (at1) (tk1) (fk2_635) (nd1) (op1) (ec1) gL647_0 gL647_1 gL647_2 gL647_3 gL647_4 gL647_5 hW636 hF641 hP642 (((hF637.1 10 rfl).trans (ex_at1))) (((hF637.1 11 rfl).trans (ex_tk1))) ((e638)) (((hF637.1 31 rfl).trans (ex_nd1))) (((hF637.1 15 rfl).trans (ex_op1))) (ec645) (((hF637.1 9 rfl).trans (fx_9))) (by omega) (by omega) (by omega) (by omega) (by omega) (by omega) (by omega) (by omega) (by omega) (by omega) (by omega)
      · have _q : True := trivial
        refine jx_if_eq (pc_q := 73) (tg := 82) rfl rfl rfl (by decide) (by decide) (fun h649 => ?_) (fun h649 => ?_)
        · have _q := h649
          refine jx_ar (pc_q := 83) (st_q := [.int (i32 (0))]) rfl rfl rfl rfl ?_
          refine jx_ld (pc_q := 85) (l_q := jSto1 L 4 (.int (i32 (0)))) (st_q := []) rfl rfl ?_
          obtain ⟨L650, eL650⟩ : ∃ q, q = jSto1 L 4 (.int (i32 (0))) := ⟨_, rfl⟩
          rw [← eL650]
          have gL650_0 : jGet L650 0 = some (.ref 66) := eL650 ▸ jg_ne (by decide) gL_0 rfl
          have gL650_1 : jGet L650 1 = some (.int (i32 (s))) := eL650 ▸ jg_ne (by decide) gL_1 rfl
          have gL650_2 : jGet L650 2 = some (.int (i32 (n))) := eL650 ▸ jg_ne (by decide) gL_2 rfl
          have gL650_3 : jGet L650 3 = some (.int (i32 (many))) := eL650 ▸ jg_ne (by decide) gL_3 rfl
          have gL650_4 : jGet L650 4 = some (.int (i32 (0))) := eL650 ▸ jg_eq
          refine jx_ar (pc_q := 86) (st_q := [.int (i32 (0))]) rfl rfl rfl rfl ?_
          refine jx_ld (pc_q := 88) (l_q := jSto1 L650 5 (.int (i32 (0)))) (st_q := []) rfl rfl ?_
          obtain ⟨L651, eL651⟩ : ∃ q, q = jSto1 L650 5 (.int (i32 (0))) := ⟨_, rfl⟩
          rw [← eL651]
          have gL651_0 : jGet L651 0 = some (.ref 66) := eL651 ▸ jg_ne (by decide) gL650_0 rfl
          have gL651_1 : jGet L651 1 = some (.int (i32 (s))) := eL651 ▸ jg_ne (by decide) gL650_1 rfl
          have gL651_2 : jGet L651 2 = some (.int (i32 (n))) := eL651 ▸ jg_ne (by decide) gL650_2 rfl
          have gL651_3 : jGet L651 3 = some (.int (i32 (many))) := eL651 ▸ jg_ne (by decide) gL650_3 rfl
          have gL651_4 : jGet L651 4 = some (.int (i32 (0))) := eL651 ▸ jg_ne (by decide) gL650_4 rfl
          have gL651_5 : jGet L651 5 = some (.int (i32 (0))) := eL651 ▸ jg_eq
          have z652 := tz_f (tk1)
          exact c_readCall_w_at_88 (X := X) (d := d) (Vs := Vs) (sb := sb) (pb := pb) (c0 := c0) (c1 := c1) (G := G) (A := A) (T := T) (s := s) (ln := ln) (le := le) (at0 := at0) (fk := fk) (op0 := op0) (nd := nd) (tk0 := tk0) (li := li) (kd := kd) (nu := nu) (mp := mp) (pp := pp) (ec := ec) (sy := sy) (hd := hd) (hW := hW) (e_ln := e_ln) (e_le := e_le) (e_at0 := e_at0) (e_fk := e_fk) (e_op0 := e_op0) (e_nd := e_nd) (e_tk0 := e_tk0) (e_li := e_li) (e_kd := e_kd) (e_nu := e_nu) (e_mp := e_mp) (e_pp := e_pp) (e_ec := e_ec) (e_sy := e_sy) (i_SV := i_SV) (i_PQ := i_PQ) (h_s := h_s) (p_0 := p_0) (p_1 := p_1) (p_2 := p_2) (p_3 := p_3) (p_4 := p_4) (p_5 := p_5) (p_6 := p_6) (p_7 := p_7) (p_8 := p_8) _ L651 Gx Ax (n) (many) (0) (0) (at1) (tk1) (fk1) (nd1) (op1) (ec1) rfl gL651_0 gL651_1 gL651_2 gL651_3 gL651_4 gL651_5 hWx hFx hPx ((ex_at1)) ((ex_tk1)) ((ex_fk1)) ((ex_nd1)) ((ex_op1)) (ex_ec1) ((fx_9)) (by omega) (by omega) (by omega) (by omega) (by omega) (by omega) (by omega) (by omega) (by omega) (by omega) (by omega) (by omega) (by omega) (by omega) (by omega) (by omega) (by omega) (by omega) (by omega) ((ND_sf iv_12)) ((CA_eq (CA_nil (lo := n + 1) (ND_f0 iv_12)) (by omega) (by omega) (by omega) (by omega) (by omega))) (by omega) (by omega) (iv_14)
        · have _q := h649
          exact absurd h649 (by omega)
set_option maxRecDepth 20000 in
set_option maxHeartbeats 4000000 in
theorem c_readCall_w {X : jX} {dd : Nat} {Vs : Nat → Prop} {sb pb : Int} {c0 c1 : jC} {G : Nat → Int} {A : Nat → Nat → Int} {T : jH} {s : Int} {ln le at0 fk op0 nd tk0 li kd nu mp pp ec sy : Int} (hd : 71 ≤ dd) (hW : Wk G A) (e_ln : G 9 = ln) (e_le : A 4 (ln).toNat = le) (e_at0 : G 10 = at0) (e_fk : G 16 = fk) (e_op0 : G 15 = op0) (e_nd : G 31 = nd) (e_tk0 : G 11 = tk0) (e_li : G 3 = li) (e_kd : A 7 (s).toNat = kd) (e_nu : A 12 (s).toNat = nu) (e_mp : A 30 (nu).toNat = mp) (e_pp : A 29 (nu).toNat = pp) (e_ec : ecn A (G 31) = ec) (e_sy : G 19 = sy) (i_SV : SV Vs sb G A) (i_PQ : PQ Vs sb pb G A) (h_s : (-2147483648 : Int) ≤ s ∧ s ≤ 2147483647) (p_0 : 0 ≤ op0 ∧ op0 ≤ 8) (p_1 : fk = 0) (p_2 : nd ≤ 2 * at0 - tz tk0 + 42) (p_3 : at0 ≤ le) (p_4 : ln < li) (p_5 : 0 ≤ s ∧ s ≤ 201) (p_6 : 1 ≤ tk0) (p_7 : kd = 14) (p_8 : SY Vs sb (s)) : wk X dd 305 [.ref 66, .int (i32 s)] (rV c0 c1 G A T) (fun o V_q => ∃ (G_q : Nat → Int) (A_q : Nat → Nat → Int) (r : Int) (at2 : Int) (fk2 : Int) (nd2 : Int) (ln2 : Int) (ec2 : Int), V_q = rV c0 c1 G_q A_q T ∧ o = .inl (some (.int (i32 r))) ∧ Wk G_q A_q ∧ Fr [9, 10, 11, 12, 13, 14, 15, 16, 17, 18, 31] [15, 16, 17, 18, 19, 20, 21, 22, 24, 28] G A G_q A_q ∧ Pf nd A A_q ∧ ((-2147483648 : Int) ≤ r ∧ r ≤ 2147483647) ∧ G_q 10 = at2 ∧ G_q 16 = fk2 ∧ G_q 31 = nd2 ∧ G_q 9 = ln2 ∧ ecn A_q (G_q 31) = ec2 ∧ (at0 ≤ at2) ∧ (at2 ≤ le) ∧ (nd ≤ nd2) ∧ (0 ≤ r) ∧ (r ≤ nd2) ∧ (((1 ≤ fk2) ∧ (ln2 = ln) ∧ (nd2 - nd ≤ 2 * at2 - 2 * at0 + 8)) ∨ ((fk2 = 0) ∧ (ln2 = ln + 1) ∧ (nd2 - nd ≤ 2 * at2 - (2 * at0 - tz tk0) + 0) ∧ (nd ≤ r) ∧ (r < nd2) ∧ (wL A_q sb pb Vs (r) (nd) (nd2)) ∧ (NX A_q (r)) ∧ (nd2 - nd + 5 * (ec2 - ec) ≤ 2 * at2 - (2 * at0 - tz tk0) + 0) ∧ (NdM A_q (nd) (nd2) (sy))))) := by
  obtain ⟨d, rfl⟩ : ∃ d, dd = d + 1 := ⟨dd - 1, by omega⟩
  refine wk_of (e := jm305) rfl (Nat.le_of_ble_eq_true rfl) ?_
  show wj X d jm305 (0, [(0, .ref 66), (1, .int (i32 (s)))], [], rV c0 c1 G A T) _
  have hF0 : Fr [9, 10, 11, 12, 13, 14, 15, 16, 17, 18, 31] [15, 16, 17, 18, 19, 20, 21, 22, 24, 28] G A G A := Fr_rf
  have hP0 : Pf nd A A := Pf_rf
  have b_ln : (0 : Int) ≤ ln ∧ ln ≤ 3000 := e_ln ▸ hW.1 9
  have b_le : (0 : Int) ≤ le ∧ le ≤ 3000 := e_le ▸ hW.2 4 _
  have b_at0 : (0 : Int) ≤ at0 ∧ at0 ≤ 3002 := e_at0 ▸ hW.1 10
  have b_fk : (0 : Int) ≤ fk ∧ fk ≤ 6 := e_fk ▸ hW.1 16
  have b_op0 : (-2147483648 : Int) ≤ op0 ∧ op0 ≤ 2147483647 := e_op0 ▸ hW.1 15
  have b_nd : (0 : Int) ≤ nd ∧ nd ≤ 6999 := e_nd ▸ hW.1 31
  have z_tk0 := tz_f tk0
  have b_tk0 : (0 : Int) ≤ tk0 ∧ tk0 ≤ 5 := e_tk0 ▸ hW.1 11
  have b_li : (0 : Int) ≤ li ∧ li ≤ 3000 := e_li ▸ hW.1 3
  have b_kd : (0 : Int) ≤ kd ∧ kd ≤ 14 := e_kd ▸ hW.2 7 _
  have b_nu : (0 : Int) ≤ nu ∧ nu ≤ 24 := e_nu ▸ hW.2 12 _
  have b_mp : (0 : Int) ≤ mp ∧ mp ≤ 6 := e_mp ▸ hW.2 30 _
  have b_pp : (0 : Int) ≤ pp ∧ pp ≤ 202 := e_pp ▸ hW.2 29 _
  have b_sy : (0 : Int) ≤ sy ∧ sy ≤ 202 := e_sy ▸ hW.1 19
  have pq := PQ_at i_PQ p_8 (e_kd.trans (by omega)) e_nu e_mp e_pp
  refine jx_ld (pc_q := 1) (l_q := [(0, .ref 66), (1, .int (i32 (s)))]) (st_q := [.ref 66]) rfl (jl_aloadn rfl) ?_
  refine jx_ar (pc_q := 3) (st_q := [.int (i32 (25)), .ref 66]) rfl rfl rfl rfl ?_
  refine jx_ld (pc_q := 4) (l_q := [(0, .ref 66), (1, .int (i32 (s)))]) (st_q := [.ref 66, .int (i32 (25)), .ref 66]) rfl (jl_aloadn rfl) ?_
  refine jr_get (pc_q := 7) (i := 26) (v := .ref 79) rfl rfl (by decide) rfl rfl ?_
  refine jx_ld (pc_q := 8) (l_q := [(0, .ref 66), (1, .int (i32 (s)))]) (st_q := [.int (i32 (s)), .ref 79, .int (i32 (25)), .ref 66]) rfl (jl_iloadn rfl) ?_
  refine jr_ldv (pc_q := 9) (i := 12) (m := 260) (z := s) (y := nu) rfl (by decide) rfl (by decide) (by omega) (by omega) rfl (show A 12 (s).toNat = nu from (e_nu)) ?_
  refine jx_ar (pc_q := 10) (st_q := [.int (i32 (0)), .int (i32 (nu)), .int (i32 (25)), .ref 66]) rfl rfl rfl rfl ?_
  refine jx_ar (pc_q := 11) (st_q := [.int (i32 (0)), .int (i32 (0)), .int (i32 (nu)), .int (i32 (25)), .ref 66]) rfl rfl rfl rfl ?_
  refine jx_ar (pc_q := 12) (st_q := [.int (i32 (0)), .int (i32 (0)), .int (i32 (0)), .int (i32 (nu)), .int (i32 (25)), .ref 66]) rfl rfl rfl rfl ?_
  refine jx_vr (pc_q := 15) (as := [.int (i32 (25)), .int (i32 (nu)), .int (i32 (0)), .int (i32 (0)), .int (i32 (0))]) (st := []) rfl rfl rfl rfl ⟨rfl, rfl, Nat.le_of_ble_eq_true rfl⟩ rfl rfl (c_node_l (dd := d) (hd := by omega) (hW := hW) (kind := 25) (a := nu) (b := 0) (c := 0) (e := 0) (nd := nd) (e_nd := show G 31 = nd from (e_nd)) (ec := ec) (e_ec := show ecn A (G 31) = ec from e_ec) (sy := sy) (e_sy := show G 19 = sy from (e_sy)) (ln := ln) (e_ln := show G 9 = ln from (e_ln)) (li := li) (e_li := show G 3 = li from (e_li))  (h_kind := ⟨(by decide), (by decide)⟩) (h_a := ⟨(Int.le_trans (by decide : (-2147483648 : Int) ≤ 0) b_nu.1), (Int.le_trans b_nu.2 (by decide : (24 : Int) ≤ 2147483647))⟩) (h_b := ⟨(by decide), (by decide)⟩) (h_c := ⟨(by decide), (by decide)⟩) (h_e := ⟨(by decide), (by decide)⟩)  (p_0 := by omega) (p_1 := by omega) (p_2 := by omega) (p_3 := by omega)) (fun o V_q hq => ?_)
  obtain ⟨G653, A654, nd2_655, ec2_656, rfl, rfl, hW657, hF658, hQ659, e660, e661, p662, p663, p664, p665, -⟩ := hq
  have hF667 := Fr_tr hF0 hF658 (Fr_sub (by decide)) (Fr_sub (by decide))
  have hP668 := Pf_tr hP0 hQ659 (by omega)
  have bnd2_655 : (0 : Int) ≤ nd2_655 ∧ nd2_655 ≤ 6999 := e660 ▸ hW657.1 31
  refine .inr ⟨_, rfl, ?_⟩
  refine jx_ld (pc_q := 16) (l_q := jSto1 [(0, .ref 66), (1, .int (i32 (s)))] 2 (.int (i32 (nd)))) (st_q := []) rfl rfl ?_
  obtain ⟨L669, eL669⟩ : ∃ q, q = jSto1 [(0, .ref 66), (1, .int (i32 (s)))] 2 (.int (i32 (nd))) := ⟨_, rfl⟩
  rw [← eL669]
  have gL669_0 : jGet L669 0 = some (.ref 66) := eL669 ▸ jg_ne (by decide) (rfl : jGet [(0, .ref 66), (1, .int (i32 (s)))] 0 = some (.ref 66)) rfl
  have gL669_1 : jGet L669 1 = some (.int (i32 (s))) := eL669 ▸ jg_ne (by decide) (rfl : jGet [(0, .ref 66), (1, .int (i32 (s)))] 1 = some (.int (i32 (s)))) rfl
  have gL669_2 : jGet L669 2 = some (.int (i32 (nd))) := eL669 ▸ jg_eq
  refine jx_ld (pc_q := 17) (l_q := L669) (st_q := [.ref 66]) rfl (jl_aloadn gL669_0) ?_
  refine jr_get (pc_q := 20) (i := 48) (v := .ref 97) rfl rfl (by decide) rfl rfl ?_
  refine jx_ld (pc_q := 21) (l_q := L669) (st_q := [.ref 66, .ref 97]) rfl (jl_aloadn gL669_0) ?_
  refine jr_get (pc_q := 24) (i := 26) (v := .ref 79) rfl rfl (by decide) rfl rfl ?_
  refine jx_ld (pc_q := 25) (l_q := L669) (st_q := [.int (i32 (s)), .ref 79, .ref 97]) rfl (jl_iloadn gL669_1) ?_
  refine jr_ldv (pc_q := 26) (i := 12) (m := 260) (z := s) (y := nu) rfl (by decide) rfl (by decide) (by omega) (by omega) rfl (show A654 12 (s).toNat = nu from (congrFun (hF658.2 12 rfl) _).trans (e_nu)) ?_
  refine jr_ldv (pc_q := 27) (i := 30) (m := 25) (z := nu) (y := mp) rfl (by decide) rfl (by decide) (Int.le_trans (by decide : (0 : Int) ≤ 0) b_nu.1) (Int.lt_of_le_of_lt b_nu.2 (by decide : (24 : Int) < ((25 : Nat) : Int))) rfl (show A654 30 (nu).toNat = mp from (congrFun (hF658.2 30 rfl) _).trans (e_mp)) ?_
  refine jx_ld (pc_q := 28) (l_q := jSto1 L669 3 (.int (i32 (mp)))) (st_q := []) rfl rfl ?_
  obtain ⟨L670, eL670⟩ : ∃ q, q = jSto1 L669 3 (.int (i32 (mp))) := ⟨_, rfl⟩
  rw [← eL670]
  have gL670_0 : jGet L670 0 = some (.ref 66) := eL670 ▸ jg_ne (by decide) gL669_0 rfl
  have gL670_1 : jGet L670 1 = some (.int (i32 (s))) := eL670 ▸ jg_ne (by decide) gL669_1 rfl
  have gL670_2 : jGet L670 2 = some (.int (i32 (nd))) := eL670 ▸ jg_ne (by decide) gL669_2 rfl
  have gL670_3 : jGet L670 3 = some (.int (i32 (mp))) := eL670 ▸ jg_eq
  refine jx_ld (pc_q := 29) (l_q := L670) (st_q := [.ref 66]) rfl (jl_aloadn gL670_0) ?_
  refine jx_vr (pc_q := 32) (as := []) (st := []) rfl rfl rfl rfl ⟨rfl, rfl, Nat.le_of_ble_eq_true rfl⟩ rfl rfl (c_open (dd := d) (hd := by omega) (hW := hW657)  (fk := fk) (e_fk := show G653 16 = fk from ((hF658.1 16 rfl).trans (e_fk))) (op0 := op0) (e_op0 := show G653 15 = op0 from ((hF658.1 15 rfl).trans (e_op0)))    (p_0 := by omega)) (fun o V_q hq => ?_)
  obtain ⟨G671, A672, fk2_673, op2_674, rfl, rfl, hW675, hF676, e677, e678, p679, q680⟩ := hq
  have hF681 := Fr_tr hF667 hF676 (Fr_sub (by decide)) (Fr_sub (by decide))
  have hP682 := Pf_f hP668 hF676 (by decide)
  have sf683 : ND A672 (nd) (25) (nu) (0) (0) (0) (0) (0) := ND_ag (by omega) (Ag_fr hF676 (by decide)) p664
  have sf684 : NdM A672 (nd) (nd + 1) (sy) := NdM_f hF676 (by decide) p665
  have ec685 : ecn A672 (G671 31) = ec2_656 := (ecn_f (hF676.2 15 rfl) (hF676.1 31 rfl)).trans e661
  have bfk2_673 : (0 : Int) ≤ fk2_673 ∧ fk2_673 ≤ 6 := e677 ▸ hW675.1 16
  have bop2_674 : (-2147483648 : Int) ≤ op2_674 ∧ op2_674 ≤ 2147483647 := e678 ▸ hW675.1 15
  refine .inl ⟨rfl, ?_⟩
  rcases q680 with a686 | ⟨a687, a688, a689⟩
  · have _q : True := trivial
    refine jx_ld (pc_q := 33) (l_q := L670) (st_q := [.ref 66]) rfl (jl_aloadn gL670_0) ?_
    refine jx_ar (pc_q := 34) (st_q := [.int (i32 (1)), .ref 66]) rfl rfl rfl rfl ?_
    refine jx_vr (pc_q := 37) (as := [.int (i32 (1))]) (st := []) rfl rfl rfl rfl ⟨rfl, rfl, Nat.le_of_ble_eq_true rfl⟩ rfl rfl (c_need (dd := d) (hd := by omega) (hW := hW675) (g := 1) (ln := ln) (e_ln := show G671 9 = ln from ((hF676.1 9 rfl).trans ((hF658.1 9 rfl).trans (e_ln)))) (le := le) (e_le := show A672 4 (ln).toNat = le from (congrFun ((hF676.2 4 rfl).trans (hF658.2 4 rfl)) _).trans (e_le)) (at0 := at0) (e_at0 := show G671 10 = at0 from ((hF676.1 10 rfl).trans ((hF658.1 10 rfl).trans (e_at0)))) (fk := fk2_673) (e_fk := show G671 16 = fk2_673 from (e677)) (tk0 := tk0) (e_tk0 := show G671 11 = tk0 from ((hF676.1 11 rfl).trans ((hF658.1 11 rfl).trans (e_tk0))))  (h_g := ⟨(by decide), (by decide)⟩)  (p_0 := by omega)) (fun o V_q hq => ?_)
    obtain ⟨G690, A691, at2_692, tk2_693, fk2_694, rfl, rfl, hW695, hF696, e697, e698, e699, p700, p701, q702⟩ := hq
    have hF703 := Fr_tr hF681 hF696 (Fr_sub (by decide)) (Fr_sub (by decide))
    have hP704 := Pf_f hP682 hF696 (by decide)
    have sf705 : ND A691 (nd) (25) (nu) (0) (0) (0) (0) (0) := ND_ag (by omega) (Ag_fr hF696 (by decide)) sf683
    have sf706 : NdM A691 (nd) (nd + 1) (sy) := NdM_f hF696 (by decide) sf684
    have ec707 : ecn A691 (G690 31) = ec2_656 := (ecn_f (hF696.2 15 rfl) (hF696.1 31 rfl)).trans ec685
    have bat2_692 : (0 : Int) ≤ at2_692 ∧ at2_692 ≤ 3002 := e697 ▸ hW695.1 10
    have ztk2_693 := tz_b tk2_693
    have btk2_693 : (0 : Int) ≤ tk2_693 ∧ tk2_693 ≤ 5 := e698 ▸ hW695.1 11
    have bfk2_694 : (0 : Int) ≤ fk2_694 ∧ fk2_694 ≤ 6 := e699 ▸ hW695.1 16
    refine .inl ⟨rfl, ?_⟩
    rcases q702 with ⟨a708, a709, a710, a711⟩ | ⟨a712, a713, a714, a715⟩
    · have _q : True := trivial
      refine jx_ld (pc_q := 38) (l_q := L670) (st_q := [.int (i32 (mp))]) rfl (jl_iloadn gL670_3) ?_
      refine jx_if_ne (pc_q := 41) (tg := 57) rfl rfl rfl (Int.le_trans (by decide : (-2147483648 : Int) ≤ 0) b_mp.1) (Int.le_trans b_mp.2 (by decide : (6 : Int) ≤ 2147483647)) (fun h716 => ?_) (fun h716 => ?_)
      · have _q := h716
        refine jx_ld (pc_q := 58) (l_q := L670) (st_q := [.ref 66]) rfl (jl_aloadn gL670_0) ?_
        refine jx_vr (pc_q := 61) (as := []) (st := []) rfl rfl rfl rfl ⟨rfl, rfl, Nat.le_of_ble_eq_true rfl⟩ rfl rfl (c_bad (dd := d) (hd := by omega) (hW := hW695)  (fk := fk2_694) (e_fk := show G690 16 = fk2_694 from (e699))    ) (fun o V_q hq => ?_)
        obtain ⟨r717, rfl, rfl, b718, q719⟩ := hq
        refine .inr ⟨_, rfl, ?_⟩
        rcases q719 with ⟨rfl, a720⟩ | ⟨rfl, a721⟩
        · have _q : True := trivial
          refine jx_if_ne (pc_q := 64) (tg := 82) rfl rfl rfl (by decide) (by decide) (fun h722 => ?_) (fun h722 => ?_)
          · have _q := h722
            refine jx_ar (pc_q := 83) (st_q := [.int (i32 (0))]) rfl rfl rfl rfl ?_
            refine jx_ld (pc_q := 85) (l_q := jSto1 L670 4 (.int (i32 (0)))) (st_q := []) rfl rfl ?_
            obtain ⟨L723, eL723⟩ : ∃ q, q = jSto1 L670 4 (.int (i32 (0))) := ⟨_, rfl⟩
            rw [← eL723]
            have gL723_0 : jGet L723 0 = some (.ref 66) := eL723 ▸ jg_ne (by decide) gL670_0 rfl
            have gL723_1 : jGet L723 1 = some (.int (i32 (s))) := eL723 ▸ jg_ne (by decide) gL670_1 rfl
            have gL723_2 : jGet L723 2 = some (.int (i32 (nd))) := eL723 ▸ jg_ne (by decide) gL670_2 rfl
            have gL723_3 : jGet L723 3 = some (.int (i32 (mp))) := eL723 ▸ jg_ne (by decide) gL670_3 rfl
            have gL723_4 : jGet L723 4 = some (.int (i32 (0))) := eL723 ▸ jg_eq
            refine jx_ar (pc_q := 86) (st_q := [.int (i32 (0))]) rfl rfl rfl rfl ?_
            refine jx_ld (pc_q := 88) (l_q := jSto1 L723 5 (.int (i32 (0)))) (st_q := []) rfl rfl ?_
            obtain ⟨L724, eL724⟩ : ∃ q, q = jSto1 L723 5 (.int (i32 (0))) := ⟨_, rfl⟩
            rw [← eL724]
            have gL724_0 : jGet L724 0 = some (.ref 66) := eL724 ▸ jg_ne (by decide) gL723_0 rfl
            have gL724_1 : jGet L724 1 = some (.int (i32 (s))) := eL724 ▸ jg_ne (by decide) gL723_1 rfl
            have gL724_2 : jGet L724 2 = some (.int (i32 (nd))) := eL724 ▸ jg_ne (by decide) gL723_2 rfl
            have gL724_3 : jGet L724 3 = some (.int (i32 (mp))) := eL724 ▸ jg_ne (by decide) gL723_3 rfl
            have gL724_4 : jGet L724 4 = some (.int (i32 (0))) := eL724 ▸ jg_ne (by decide) gL723_4 rfl
            have gL724_5 : jGet L724 5 = some (.int (i32 (0))) := eL724 ▸ jg_eq
            have z725 := tz_f (tk2_693)
            exact c_readCall_w_at_88p (X := X) (d := d) (Vs := Vs) (sb := sb) (pb := pb) (c0 := c0) (c1 := c1) (G := G) (A := A) (T := T) (s := s) (ln := ln) (le := le) (at0 := at0) (fk := fk) (op0 := op0) (nd := nd) (tk0 := tk0) (li := li) (kd := kd) (nu := nu) (mp := mp) (pp := pp) (ec := ec) (sy := sy) (hd := hd) (hW := hW) (e_ln := e_ln) (e_le := e_le) (e_at0 := e_at0) (e_fk := e_fk) (e_op0 := e_op0) (e_nd := e_nd) (e_tk0 := e_tk0) (e_li := e_li) (e_kd := e_kd) (e_nu := e_nu) (e_mp := e_mp) (e_pp := e_pp) (e_ec := e_ec) (e_sy := e_sy) (i_SV := i_SV) (i_PQ := i_PQ) (h_s := h_s) (p_0 := p_0) (p_1 := p_1) (p_2 := p_2) (p_3 := p_3) (p_4 := p_4) (p_5 := p_5) (p_6 := p_6) (p_7 := p_7) (p_8 := p_8) L724 G690 A691 (nd) (mp) (0) (0) (at2_692) (tk2_693) (fk2_694) (nd2_655) (op2_674) (ec2_656) gL724_0 gL724_1 gL724_2 gL724_3 gL724_4 gL724_5 hW695 hF703 hP704 ((e697)) ((e698)) ((e699)) (((hF696.1 31 rfl).trans ((hF676.1 31 rfl).trans (e660)))) (((hF696.1 15 rfl).trans (e678))) (ec707) (((hF696.1 9 rfl).trans ((hF676.1 9 rfl).trans ((hF658.1 9 rfl).trans (e_ln))))) (by omega) (by omega) (by omega) (by omega) (by omega) (by omega) (by omega) (by omega) (by omega) (by omega) (by omega)
          · have _q := h722
            exact absurd h722 (by omega)
        · have _q : True := trivial
          exfalso
          omega
      · have _q := h716
        refine jx_ld (pc_q := 42) (l_q := L670) (st_q := [.ref 66]) rfl (jl_aloadn gL670_0) ?_
        refine jx_ld (pc_q := 43) (l_q := L670) (st_q := [.ref 66, .ref 66]) rfl (jl_aloadn gL670_0) ?_
        refine jx_ar (pc_q := 45) (st_q := [.int (i32 (41)), .ref 66, .ref 66]) rfl rfl rfl rfl ?_
        have b726 : (-2147483648 : Int) ≤ G690 13 ∧ G690 13 ≤ 2147483647 := hW695.1 13
        refine jx_vr (pc_q := 48) (as := [.int (i32 (41))]) (st := [.ref 66]) rfl rfl rfl rfl ⟨rfl, rfl, Nat.le_of_ble_eq_true rfl⟩ rfl rfl (c_is (dd := d) (hd := by omega) (hW := hW695) (k := 41) (tk := tk2_693) (e_tk := show G690 11 = tk2_693 from (e698)) (tn := G690 13) (e_tn := show G690 13 = G690 13 from rfl)  (h_k := ⟨(by decide), (by decide)⟩)  ) (fun o V_q hq => ?_)
        obtain ⟨r727, rfl, rfl, b728, q729⟩ := hq
        refine .inr ⟨_, rfl, ?_⟩
        rcases q729 with ⟨rfl, a730, a731, a732⟩ | rfl
        · have _q : True := trivial
          refine jx_vr (pc_q := 51) (as := [.int (i32 (1))]) (st := []) rfl rfl rfl rfl ⟨rfl, rfl, Nat.le_of_ble_eq_true rfl⟩ rfl rfl (c_need (dd := d) (hd := by omega) (hW := hW695) (g := 1) (ln := ln) (e_ln := show G690 9 = ln from ((hF696.1 9 rfl).trans ((hF676.1 9 rfl).trans ((hF658.1 9 rfl).trans (e_ln))))) (le := le) (e_le := show A691 4 (ln).toNat = le from (congrFun ((hF696.2 4 rfl).trans ((hF676.2 4 rfl).trans (hF658.2 4 rfl))) _).trans (e_le)) (at0 := at2_692) (e_at0 := show G690 10 = at2_692 from (e697)) (fk := fk2_694) (e_fk := show G690 16 = fk2_694 from (e699)) (tk0 := tk2_693) (e_tk0 := show G690 11 = tk2_693 from (e698))  (h_g := ⟨(by decide), (by decide)⟩)  (p_0 := by omega)) (fun o V_q hq => ?_)
          obtain ⟨G733, A734, at2_735, tk2_736, fk2_737, rfl, rfl, hW738, hF739, e740, e741, e742, p743, p744, q745⟩ := hq
          have hF746 := Fr_tr hF703 hF739 (Fr_sub (by decide)) (Fr_sub (by decide))
          have hP747 := Pf_f hP704 hF739 (by decide)
          have sf748 : ND A734 (nd) (25) (nu) (0) (0) (0) (0) (0) := ND_ag (by omega) (Ag_fr hF739 (by decide)) sf705
          have sf749 : NdM A734 (nd) (nd + 1) (sy) := NdM_f hF739 (by decide) sf706
          have ec750 : ecn A734 (G733 31) = ec2_656 := (ecn_f (hF739.2 15 rfl) (hF739.1 31 rfl)).trans ec707
          have bat2_735 : (0 : Int) ≤ at2_735 ∧ at2_735 ≤ 3002 := e740 ▸ hW738.1 10
          have ztk2_736 := tz_b tk2_736
          have btk2_736 : (0 : Int) ≤ tk2_736 ∧ tk2_736 ≤ 5 := e741 ▸ hW738.1 11
          have bfk2_737 : (0 : Int) ≤ fk2_737 ∧ fk2_737 ≤ 6 := e742 ▸ hW738.1 16
          refine .inl ⟨rfl, ?_⟩
          rcases q745 with ⟨a751, a752, a753, a754⟩ | ⟨a755, a756, a757, a758⟩
          · have _q : True := trivial
            refine jx_ld (pc_q := 52) (l_q := L670) (st_q := [.ref 66]) rfl (jl_aloadn gL670_0) ?_
            refine jx_vr (pc_q := 55) (as := []) (st := []) rfl rfl rfl rfl ⟨rfl, rfl, Nat.le_of_ble_eq_true rfl⟩ rfl rfl (c_endLine (dd := d) (hd := by omega) (hW := hW738)  (ln := ln) (e_ln := show G733 9 = ln from ((hF739.1 9 rfl).trans ((hF696.1 9 rfl).trans ((hF676.1 9 rfl).trans ((hF658.1 9 rfl).trans (e_ln)))))) (li := li) (e_li := show G733 3 = li from ((hF739.1 3 rfl).trans ((hF696.1 3 rfl).trans ((hF676.1 3 rfl).trans ((hF658.1 3 rfl).trans (e_li)))))) (fk := fk2_737) (e_fk := show G733 16 = fk2_737 from (e742)) (tk0 := tk2_736) (e_tk0 := show G733 11 = tk2_736 from (e741))    (p_0 := by omega)) (fun o V_q hq => ?_)
            obtain ⟨G759, A760, ln2_761, fk2_762, rfl, rfl, hW763, hF764, e765, e766, q767⟩ := hq
            have hF768 := Fr_tr hF746 hF764 (Fr_sub (by decide)) (Fr_sub (by decide))
            have hP769 := Pf_f hP747 hF764 (by decide)
            have sf770 : ND A760 (nd) (25) (nu) (0) (0) (0) (0) (0) := ND_ag (by omega) (Ag_fr hF764 (by decide)) sf748
            have sf771 : NdM A760 (nd) (nd + 1) (sy) := NdM_f hF764 (by decide) sf749
            have ec772 : ecn A760 (G759 31) = ec2_656 := (ecn_f (hF764.2 15 rfl) (hF764.1 31 rfl)).trans ec750
            have bln2_761 : (0 : Int) ≤ ln2_761 ∧ ln2_761 ≤ 3000 := e765 ▸ hW763.1 9
            have bfk2_762 : (0 : Int) ≤ fk2_762 ∧ fk2_762 ≤ 6 := e766 ▸ hW763.1 16
            refine .inl ⟨rfl, ?_⟩
            rcases q767 with ⟨a773, a774, a775, a776, a777⟩ | ⟨a778, a779⟩
            · have _q : True := trivial
              exfalso
              omega
            · have _q : True := trivial
              refine jx_ld (pc_q := 56) (l_q := L670) (st_q := [.int (i32 (nd))]) rfl (jl_iloadn gL670_2) ?_
              refine jx_rt (v := some (.int (i32 (nd)))) rfl rfl rfl rfl rfl rfl ?_
              exact ⟨_, _, _, at2_735, fk2_762, nd2_655, ln2_761, ec2_656, rfl, rfl, hW763, hF768, hP769, by omega, ((hF764.1 10 rfl).trans (e740)), (e766), ((hF764.1 31 rfl).trans ((hF739.1 31 rfl).trans ((hF696.1 31 rfl).trans ((hF676.1 31 rfl).trans (e660))))), (e765), ec772, by omega, by omega, by omega, by omega, by omega, by first | exact Or.inl (⟨by omega, by omega, by omega⟩)⟩
          · have _q : True := trivial
            exfalso
            omega
        · have _q : True := trivial
          refine jx_vr (pc_q := 51) (as := [.int (i32 (0))]) (st := []) rfl rfl rfl rfl ⟨rfl, rfl, Nat.le_of_ble_eq_true rfl⟩ rfl rfl (c_need (dd := d) (hd := by omega) (hW := hW695) (g := 0) (ln := ln) (e_ln := show G690 9 = ln from ((hF696.1 9 rfl).trans ((hF676.1 9 rfl).trans ((hF658.1 9 rfl).trans (e_ln))))) (le := le) (e_le := show A691 4 (ln).toNat = le from (congrFun ((hF696.2 4 rfl).trans ((hF676.2 4 rfl).trans (hF658.2 4 rfl))) _).trans (e_le)) (at0 := at2_692) (e_at0 := show G690 10 = at2_692 from (e697)) (fk := fk2_694) (e_fk := show G690 16 = fk2_694 from (e699)) (tk0 := tk2_693) (e_tk0 := show G690 11 = tk2_693 from (e698))  (h_g := ⟨(by decide), (by decide)⟩)  (p_0 := by omega)) (fun o V_q hq => ?_)
          obtain ⟨G780, A781, at2_782, tk2_783, fk2_784, rfl, rfl, hW785, hF786, e787, e788, e789, p790, p791, q792⟩ := hq
          have hF793 := Fr_tr hF703 hF786 (Fr_sub (by decide)) (Fr_sub (by decide))
          have hP794 := Pf_f hP704 hF786 (by decide)
          have sf795 : ND A781 (nd) (25) (nu) (0) (0) (0) (0) (0) := ND_ag (by omega) (Ag_fr hF786 (by decide)) sf705
          have sf796 : NdM A781 (nd) (nd + 1) (sy) := NdM_f hF786 (by decide) sf706
          have ec797 : ecn A781 (G780 31) = ec2_656 := (ecn_f (hF786.2 15 rfl) (hF786.1 31 rfl)).trans ec707
          have bat2_782 : (0 : Int) ≤ at2_782 ∧ at2_782 ≤ 3002 := e787 ▸ hW785.1 10
          have ztk2_783 := tz_b tk2_783
          have btk2_783 : (0 : Int) ≤ tk2_783 ∧ tk2_783 ≤ 5 := e788 ▸ hW785.1 11
          have bfk2_784 : (0 : Int) ≤ fk2_784 ∧ fk2_784 ≤ 6 := e789 ▸ hW785.1 16
          refine .inl ⟨rfl, ?_⟩
          rcases q792 with ⟨a798, a799, a800, a801⟩ | ⟨a802, a803, a804, a805⟩
          · have _q : True := trivial
            refine jx_ld (pc_q := 52) (l_q := L670) (st_q := [.ref 66]) rfl (jl_aloadn gL670_0) ?_
            refine jx_vr (pc_q := 55) (as := []) (st := []) rfl rfl rfl rfl ⟨rfl, rfl, Nat.le_of_ble_eq_true rfl⟩ rfl rfl (c_endLine (dd := d) (hd := by omega) (hW := hW785)  (ln := ln) (e_ln := show G780 9 = ln from ((hF786.1 9 rfl).trans ((hF696.1 9 rfl).trans ((hF676.1 9 rfl).trans ((hF658.1 9 rfl).trans (e_ln)))))) (li := li) (e_li := show G780 3 = li from ((hF786.1 3 rfl).trans ((hF696.1 3 rfl).trans ((hF676.1 3 rfl).trans ((hF658.1 3 rfl).trans (e_li)))))) (fk := fk2_784) (e_fk := show G780 16 = fk2_784 from (e789)) (tk0 := tk2_783) (e_tk0 := show G780 11 = tk2_783 from (e788))    (p_0 := by omega)) (fun o V_q hq => ?_)
            obtain ⟨G806, A807, ln2_808, fk2_809, rfl, rfl, hW810, hF811, e812, e813, q814⟩ := hq
            have hF815 := Fr_tr hF793 hF811 (Fr_sub (by decide)) (Fr_sub (by decide))
            have hP816 := Pf_f hP794 hF811 (by decide)
            have sf817 : ND A807 (nd) (25) (nu) (0) (0) (0) (0) (0) := ND_ag (by omega) (Ag_fr hF811 (by decide)) sf795
            have sf818 : NdM A807 (nd) (nd + 1) (sy) := NdM_f hF811 (by decide) sf796
            have ec819 : ecn A807 (G806 31) = ec2_656 := (ecn_f (hF811.2 15 rfl) (hF811.1 31 rfl)).trans ec797
            have bln2_808 : (0 : Int) ≤ ln2_808 ∧ ln2_808 ≤ 3000 := e812 ▸ hW810.1 9
            have bfk2_809 : (0 : Int) ≤ fk2_809 ∧ fk2_809 ≤ 6 := e813 ▸ hW810.1 16
            refine .inl ⟨rfl, ?_⟩
            rcases q814 with ⟨a820, a821, a822, a823, a824⟩ | ⟨a825, a826⟩
            · have _q : True := trivial
              exfalso
              omega
            · have _q : True := trivial
              refine jx_ld (pc_q := 56) (l_q := L670) (st_q := [.int (i32 (nd))]) rfl (jl_iloadn gL670_2) ?_
              refine jx_rt (v := some (.int (i32 (nd)))) rfl rfl rfl rfl rfl rfl ?_
              exact ⟨_, _, _, at2_782, fk2_809, nd2_655, ln2_808, ec2_656, rfl, rfl, hW810, hF815, hP816, by omega, ((hF811.1 10 rfl).trans (e787)), (e813), ((hF811.1 31 rfl).trans ((hF786.1 31 rfl).trans ((hF696.1 31 rfl).trans ((hF676.1 31 rfl).trans (e660))))), (e812), ec819, by omega, by omega, by omega, by omega, by omega, by first | exact Or.inl (⟨by omega, by omega, by omega⟩)⟩
          · have _q : True := trivial
            exfalso
            omega
    · have _q : True := trivial
      exfalso
      omega
  · have _q : True := trivial
    refine jx_ld (pc_q := 33) (l_q := L670) (st_q := [.ref 66]) rfl (jl_aloadn gL670_0) ?_
    refine jx_ar (pc_q := 34) (st_q := [.int (i32 (1)), .ref 66]) rfl rfl rfl rfl ?_
    refine jx_vr (pc_q := 37) (as := [.int (i32 (1))]) (st := []) rfl rfl rfl rfl ⟨rfl, rfl, Nat.le_of_ble_eq_true rfl⟩ rfl rfl (c_need (dd := d) (hd := by omega) (hW := hW675) (g := 1) (ln := ln) (e_ln := show G671 9 = ln from ((hF676.1 9 rfl).trans ((hF658.1 9 rfl).trans (e_ln)))) (le := le) (e_le := show A672 4 (ln).toNat = le from (congrFun ((hF676.2 4 rfl).trans (hF658.2 4 rfl)) _).trans (e_le)) (at0 := at0) (e_at0 := show G671 10 = at0 from ((hF676.1 10 rfl).trans ((hF658.1 10 rfl).trans (e_at0)))) (fk := fk2_673) (e_fk := show G671 16 = fk2_673 from (e677)) (tk0 := tk0) (e_tk0 := show G671 11 = tk0 from ((hF676.1 11 rfl).trans ((hF658.1 11 rfl).trans (e_tk0))))  (h_g := ⟨(by decide), (by decide)⟩)  (p_0 := by omega)) (fun o V_q hq => ?_)
    obtain ⟨G827, A828, at2_829, tk2_830, fk2_831, rfl, rfl, hW832, hF833, e834, e835, e836, p837, p838, q839⟩ := hq
    have hF840 := Fr_tr hF681 hF833 (Fr_sub (by decide)) (Fr_sub (by decide))
    have hP841 := Pf_f hP682 hF833 (by decide)
    have sf842 : ND A828 (nd) (25) (nu) (0) (0) (0) (0) (0) := ND_ag (by omega) (Ag_fr hF833 (by decide)) sf683
    have sf843 : NdM A828 (nd) (nd + 1) (sy) := NdM_f hF833 (by decide) sf684
    have ec844 : ecn A828 (G827 31) = ec2_656 := (ecn_f (hF833.2 15 rfl) (hF833.1 31 rfl)).trans ec685
    have bat2_829 : (0 : Int) ≤ at2_829 ∧ at2_829 ≤ 3002 := e834 ▸ hW832.1 10
    have ztk2_830 := tz_b tk2_830
    have btk2_830 : (0 : Int) ≤ tk2_830 ∧ tk2_830 ≤ 5 := e835 ▸ hW832.1 11
    have bfk2_831 : (0 : Int) ≤ fk2_831 ∧ fk2_831 ≤ 6 := e836 ▸ hW832.1 16
    refine .inl ⟨rfl, ?_⟩
    rcases q839 with ⟨a845, a846, a847, a848⟩ | ⟨a849, a850, a851, a852⟩
    · have _q : True := trivial
      refine jx_ld (pc_q := 38) (l_q := L670) (st_q := [.int (i32 (mp))]) rfl (jl_iloadn gL670_3) ?_
      refine jx_if_ne (pc_q := 41) (tg := 57) rfl rfl rfl (Int.le_trans (by decide : (-2147483648 : Int) ≤ 0) b_mp.1) (Int.le_trans b_mp.2 (by decide : (6 : Int) ≤ 2147483647)) (fun h853 => ?_) (fun h853 => ?_)
      · have _q := h853
        refine jx_ld (pc_q := 58) (l_q := L670) (st_q := [.ref 66]) rfl (jl_aloadn gL670_0) ?_
        refine jx_vr (pc_q := 61) (as := []) (st := []) rfl rfl rfl rfl ⟨rfl, rfl, Nat.le_of_ble_eq_true rfl⟩ rfl rfl (c_bad (dd := d) (hd := by omega) (hW := hW832)  (fk := fk2_831) (e_fk := show G827 16 = fk2_831 from (e836))    ) (fun o V_q hq => ?_)
        obtain ⟨r854, rfl, rfl, b855, q856⟩ := hq
        refine .inr ⟨_, rfl, ?_⟩
        rcases q856 with ⟨rfl, a857⟩ | ⟨rfl, a858⟩
        · have _q : True := trivial
          refine jx_if_ne (pc_q := 64) (tg := 82) rfl rfl rfl (by decide) (by decide) (fun h859 => ?_) (fun h859 => ?_)
          · have _q := h859
            refine jx_ar (pc_q := 83) (st_q := [.int (i32 (0))]) rfl rfl rfl rfl ?_
            refine jx_ld (pc_q := 85) (l_q := jSto1 L670 4 (.int (i32 (0)))) (st_q := []) rfl rfl ?_
            obtain ⟨L860, eL860⟩ : ∃ q, q = jSto1 L670 4 (.int (i32 (0))) := ⟨_, rfl⟩
            rw [← eL860]
            have gL860_0 : jGet L860 0 = some (.ref 66) := eL860 ▸ jg_ne (by decide) gL670_0 rfl
            have gL860_1 : jGet L860 1 = some (.int (i32 (s))) := eL860 ▸ jg_ne (by decide) gL670_1 rfl
            have gL860_2 : jGet L860 2 = some (.int (i32 (nd))) := eL860 ▸ jg_ne (by decide) gL670_2 rfl
            have gL860_3 : jGet L860 3 = some (.int (i32 (mp))) := eL860 ▸ jg_ne (by decide) gL670_3 rfl
            have gL860_4 : jGet L860 4 = some (.int (i32 (0))) := eL860 ▸ jg_eq
            refine jx_ar (pc_q := 86) (st_q := [.int (i32 (0))]) rfl rfl rfl rfl ?_
            refine jx_ld (pc_q := 88) (l_q := jSto1 L860 5 (.int (i32 (0)))) (st_q := []) rfl rfl ?_
            obtain ⟨L861, eL861⟩ : ∃ q, q = jSto1 L860 5 (.int (i32 (0))) := ⟨_, rfl⟩
            rw [← eL861]
            have gL861_0 : jGet L861 0 = some (.ref 66) := eL861 ▸ jg_ne (by decide) gL860_0 rfl
            have gL861_1 : jGet L861 1 = some (.int (i32 (s))) := eL861 ▸ jg_ne (by decide) gL860_1 rfl
            have gL861_2 : jGet L861 2 = some (.int (i32 (nd))) := eL861 ▸ jg_ne (by decide) gL860_2 rfl
            have gL861_3 : jGet L861 3 = some (.int (i32 (mp))) := eL861 ▸ jg_ne (by decide) gL860_3 rfl
            have gL861_4 : jGet L861 4 = some (.int (i32 (0))) := eL861 ▸ jg_ne (by decide) gL860_4 rfl
            have gL861_5 : jGet L861 5 = some (.int (i32 (0))) := eL861 ▸ jg_eq
            have z862 := tz_f (tk2_830)
            exact c_readCall_w_at_88p (X := X) (d := d) (Vs := Vs) (sb := sb) (pb := pb) (c0 := c0) (c1 := c1) (G := G) (A := A) (T := T) (s := s) (ln := ln) (le := le) (at0 := at0) (fk := fk) (op0 := op0) (nd := nd) (tk0 := tk0) (li := li) (kd := kd) (nu := nu) (mp := mp) (pp := pp) (ec := ec) (sy := sy) (hd := hd) (hW := hW) (e_ln := e_ln) (e_le := e_le) (e_at0 := e_at0) (e_fk := e_fk) (e_op0 := e_op0) (e_nd := e_nd) (e_tk0 := e_tk0) (e_li := e_li) (e_kd := e_kd) (e_nu := e_nu) (e_mp := e_mp) (e_pp := e_pp) (e_ec := e_ec) (e_sy := e_sy) (i_SV := i_SV) (i_PQ := i_PQ) (h_s := h_s) (p_0 := p_0) (p_1 := p_1) (p_2 := p_2) (p_3 := p_3) (p_4 := p_4) (p_5 := p_5) (p_6 := p_6) (p_7 := p_7) (p_8 := p_8) L861 G827 A828 (nd) (mp) (0) (0) (at2_829) (tk2_830) (fk2_831) (nd2_655) (op2_674) (ec2_656) gL861_0 gL861_1 gL861_2 gL861_3 gL861_4 gL861_5 hW832 hF840 hP841 ((e834)) ((e835)) ((e836)) (((hF833.1 31 rfl).trans ((hF676.1 31 rfl).trans (e660)))) (((hF833.1 15 rfl).trans (e678))) (ec844) (((hF833.1 9 rfl).trans ((hF676.1 9 rfl).trans ((hF658.1 9 rfl).trans (e_ln))))) (by omega) (by omega) (by omega) (by omega) (by omega) (by omega) (by omega) (by omega) (by omega) (by omega) (by omega)
          · have _q := h859
            exact absurd h859 (by omega)
        · have _q : True := trivial
          exfalso
          omega
      · have _q := h853
        refine jx_ld (pc_q := 42) (l_q := L670) (st_q := [.ref 66]) rfl (jl_aloadn gL670_0) ?_
        refine jx_ld (pc_q := 43) (l_q := L670) (st_q := [.ref 66, .ref 66]) rfl (jl_aloadn gL670_0) ?_
        refine jx_ar (pc_q := 45) (st_q := [.int (i32 (41)), .ref 66, .ref 66]) rfl rfl rfl rfl ?_
        have b863 : (-2147483648 : Int) ≤ G827 13 ∧ G827 13 ≤ 2147483647 := hW832.1 13
        refine jx_vr (pc_q := 48) (as := [.int (i32 (41))]) (st := [.ref 66]) rfl rfl rfl rfl ⟨rfl, rfl, Nat.le_of_ble_eq_true rfl⟩ rfl rfl (c_is (dd := d) (hd := by omega) (hW := hW832) (k := 41) (tk := tk2_830) (e_tk := show G827 11 = tk2_830 from (e835)) (tn := G827 13) (e_tn := show G827 13 = G827 13 from rfl)  (h_k := ⟨(by decide), (by decide)⟩)  ) (fun o V_q hq => ?_)
        obtain ⟨r864, rfl, rfl, b865, q866⟩ := hq
        refine .inr ⟨_, rfl, ?_⟩
        rcases q866 with ⟨rfl, a867, a868, a869⟩ | rfl
        · have _q : True := trivial
          refine jx_vr (pc_q := 51) (as := [.int (i32 (1))]) (st := []) rfl rfl rfl rfl ⟨rfl, rfl, Nat.le_of_ble_eq_true rfl⟩ rfl rfl (c_need (dd := d) (hd := by omega) (hW := hW832) (g := 1) (ln := ln) (e_ln := show G827 9 = ln from ((hF833.1 9 rfl).trans ((hF676.1 9 rfl).trans ((hF658.1 9 rfl).trans (e_ln))))) (le := le) (e_le := show A828 4 (ln).toNat = le from (congrFun ((hF833.2 4 rfl).trans ((hF676.2 4 rfl).trans (hF658.2 4 rfl))) _).trans (e_le)) (at0 := at2_829) (e_at0 := show G827 10 = at2_829 from (e834)) (fk := fk2_831) (e_fk := show G827 16 = fk2_831 from (e836)) (tk0 := tk2_830) (e_tk0 := show G827 11 = tk2_830 from (e835))  (h_g := ⟨(by decide), (by decide)⟩)  (p_0 := by omega)) (fun o V_q hq => ?_)
          obtain ⟨G870, A871, at2_872, tk2_873, fk2_874, rfl, rfl, hW875, hF876, e877, e878, e879, p880, p881, q882⟩ := hq
          have hF883 := Fr_tr hF840 hF876 (Fr_sub (by decide)) (Fr_sub (by decide))
          have hP884 := Pf_f hP841 hF876 (by decide)
          have sf885 : ND A871 (nd) (25) (nu) (0) (0) (0) (0) (0) := ND_ag (by omega) (Ag_fr hF876 (by decide)) sf842
          have sf886 : NdM A871 (nd) (nd + 1) (sy) := NdM_f hF876 (by decide) sf843
          have ec887 : ecn A871 (G870 31) = ec2_656 := (ecn_f (hF876.2 15 rfl) (hF876.1 31 rfl)).trans ec844
          have bat2_872 : (0 : Int) ≤ at2_872 ∧ at2_872 ≤ 3002 := e877 ▸ hW875.1 10
          have ztk2_873 := tz_b tk2_873
          have btk2_873 : (0 : Int) ≤ tk2_873 ∧ tk2_873 ≤ 5 := e878 ▸ hW875.1 11
          have bfk2_874 : (0 : Int) ≤ fk2_874 ∧ fk2_874 ≤ 6 := e879 ▸ hW875.1 16
          refine .inl ⟨rfl, ?_⟩
          rcases q882 with ⟨a888, a889, a890, a891⟩ | ⟨a892, a893, a894, a895⟩
          · have _q : True := trivial
            refine jx_ld (pc_q := 52) (l_q := L670) (st_q := [.ref 66]) rfl (jl_aloadn gL670_0) ?_
            refine jx_vr (pc_q := 55) (as := []) (st := []) rfl rfl rfl rfl ⟨rfl, rfl, Nat.le_of_ble_eq_true rfl⟩ rfl rfl (c_endLine (dd := d) (hd := by omega) (hW := hW875)  (ln := ln) (e_ln := show G870 9 = ln from ((hF876.1 9 rfl).trans ((hF833.1 9 rfl).trans ((hF676.1 9 rfl).trans ((hF658.1 9 rfl).trans (e_ln)))))) (li := li) (e_li := show G870 3 = li from ((hF876.1 3 rfl).trans ((hF833.1 3 rfl).trans ((hF676.1 3 rfl).trans ((hF658.1 3 rfl).trans (e_li)))))) (fk := fk2_874) (e_fk := show G870 16 = fk2_874 from (e879)) (tk0 := tk2_873) (e_tk0 := show G870 11 = tk2_873 from (e878))    (p_0 := by omega)) (fun o V_q hq => ?_)
            obtain ⟨G896, A897, ln2_898, fk2_899, rfl, rfl, hW900, hF901, e902, e903, q904⟩ := hq
            have hF905 := Fr_tr hF883 hF901 (Fr_sub (by decide)) (Fr_sub (by decide))
            have hP906 := Pf_f hP884 hF901 (by decide)
            have sf907 : ND A897 (nd) (25) (nu) (0) (0) (0) (0) (0) := ND_ag (by omega) (Ag_fr hF901 (by decide)) sf885
            have sf908 : NdM A897 (nd) (nd + 1) (sy) := NdM_f hF901 (by decide) sf886
            have ec909 : ecn A897 (G896 31) = ec2_656 := (ecn_f (hF901.2 15 rfl) (hF901.1 31 rfl)).trans ec887
            have bln2_898 : (0 : Int) ≤ ln2_898 ∧ ln2_898 ≤ 3000 := e902 ▸ hW900.1 9
            have bfk2_899 : (0 : Int) ≤ fk2_899 ∧ fk2_899 ≤ 6 := e903 ▸ hW900.1 16
            refine .inl ⟨rfl, ?_⟩
            rcases q904 with ⟨a910, a911, a912, a913, a914⟩ | ⟨a915, a916⟩
            · have _q : True := trivial
              exfalso
              omega
            · have _q : True := trivial
              refine jx_ld (pc_q := 56) (l_q := L670) (st_q := [.int (i32 (nd))]) rfl (jl_iloadn gL670_2) ?_
              refine jx_rt (v := some (.int (i32 (nd)))) rfl rfl rfl rfl rfl rfl ?_
              exact ⟨_, _, _, at2_872, fk2_899, nd2_655, ln2_898, ec2_656, rfl, rfl, hW900, hF905, hP906, by omega, ((hF901.1 10 rfl).trans (e877)), (e903), ((hF901.1 31 rfl).trans ((hF876.1 31 rfl).trans ((hF833.1 31 rfl).trans ((hF676.1 31 rfl).trans (e660))))), (e902), ec909, by omega, by omega, by omega, by omega, by omega, by first | exact Or.inl (⟨by omega, by omega, by omega⟩)⟩
          · have _q : True := trivial
            exfalso
            omega
        · have _q : True := trivial
          refine jx_vr (pc_q := 51) (as := [.int (i32 (0))]) (st := []) rfl rfl rfl rfl ⟨rfl, rfl, Nat.le_of_ble_eq_true rfl⟩ rfl rfl (c_need (dd := d) (hd := by omega) (hW := hW832) (g := 0) (ln := ln) (e_ln := show G827 9 = ln from ((hF833.1 9 rfl).trans ((hF676.1 9 rfl).trans ((hF658.1 9 rfl).trans (e_ln))))) (le := le) (e_le := show A828 4 (ln).toNat = le from (congrFun ((hF833.2 4 rfl).trans ((hF676.2 4 rfl).trans (hF658.2 4 rfl))) _).trans (e_le)) (at0 := at2_829) (e_at0 := show G827 10 = at2_829 from (e834)) (fk := fk2_831) (e_fk := show G827 16 = fk2_831 from (e836)) (tk0 := tk2_830) (e_tk0 := show G827 11 = tk2_830 from (e835))  (h_g := ⟨(by decide), (by decide)⟩)  (p_0 := by omega)) (fun o V_q hq => ?_)
          obtain ⟨G917, A918, at2_919, tk2_920, fk2_921, rfl, rfl, hW922, hF923, e924, e925, e926, p927, p928, q929⟩ := hq
          have hF930 := Fr_tr hF840 hF923 (Fr_sub (by decide)) (Fr_sub (by decide))
          have hP931 := Pf_f hP841 hF923 (by decide)
          have sf932 : ND A918 (nd) (25) (nu) (0) (0) (0) (0) (0) := ND_ag (by omega) (Ag_fr hF923 (by decide)) sf842
          have sf933 : NdM A918 (nd) (nd + 1) (sy) := NdM_f hF923 (by decide) sf843
          have ec934 : ecn A918 (G917 31) = ec2_656 := (ecn_f (hF923.2 15 rfl) (hF923.1 31 rfl)).trans ec844
          have bat2_919 : (0 : Int) ≤ at2_919 ∧ at2_919 ≤ 3002 := e924 ▸ hW922.1 10
          have ztk2_920 := tz_b tk2_920
          have btk2_920 : (0 : Int) ≤ tk2_920 ∧ tk2_920 ≤ 5 := e925 ▸ hW922.1 11
          have bfk2_921 : (0 : Int) ≤ fk2_921 ∧ fk2_921 ≤ 6 := e926 ▸ hW922.1 16
          refine .inl ⟨rfl, ?_⟩
          rcases q929 with ⟨a935, a936, a937, a938⟩ | ⟨a939, a940, a941, a942⟩
          · have _q : True := trivial
            refine jx_ld (pc_q := 52) (l_q := L670) (st_q := [.ref 66]) rfl (jl_aloadn gL670_0) ?_
            refine jx_vr (pc_q := 55) (as := []) (st := []) rfl rfl rfl rfl ⟨rfl, rfl, Nat.le_of_ble_eq_true rfl⟩ rfl rfl (c_endLine (dd := d) (hd := by omega) (hW := hW922)  (ln := ln) (e_ln := show G917 9 = ln from ((hF923.1 9 rfl).trans ((hF833.1 9 rfl).trans ((hF676.1 9 rfl).trans ((hF658.1 9 rfl).trans (e_ln)))))) (li := li) (e_li := show G917 3 = li from ((hF923.1 3 rfl).trans ((hF833.1 3 rfl).trans ((hF676.1 3 rfl).trans ((hF658.1 3 rfl).trans (e_li)))))) (fk := fk2_921) (e_fk := show G917 16 = fk2_921 from (e926)) (tk0 := tk2_920) (e_tk0 := show G917 11 = tk2_920 from (e925))    (p_0 := by omega)) (fun o V_q hq => ?_)
            obtain ⟨G943, A944, ln2_945, fk2_946, rfl, rfl, hW947, hF948, e949, e950, q951⟩ := hq
            have hF952 := Fr_tr hF930 hF948 (Fr_sub (by decide)) (Fr_sub (by decide))
            have hP953 := Pf_f hP931 hF948 (by decide)
            have sf954 : ND A944 (nd) (25) (nu) (0) (0) (0) (0) (0) := ND_ag (by omega) (Ag_fr hF948 (by decide)) sf932
            have sf955 : NdM A944 (nd) (nd + 1) (sy) := NdM_f hF948 (by decide) sf933
            have ec956 : ecn A944 (G943 31) = ec2_656 := (ecn_f (hF948.2 15 rfl) (hF948.1 31 rfl)).trans ec934
            have bln2_945 : (0 : Int) ≤ ln2_945 ∧ ln2_945 ≤ 3000 := e949 ▸ hW947.1 9
            have bfk2_946 : (0 : Int) ≤ fk2_946 ∧ fk2_946 ≤ 6 := e950 ▸ hW947.1 16
            refine .inl ⟨rfl, ?_⟩
            rcases q951 with ⟨a957, a958, a959, a960, a961⟩ | ⟨a962, a963⟩
            · have _q : True := trivial
              exfalso
              omega
            · have _q : True := trivial
              refine jx_ld (pc_q := 56) (l_q := L670) (st_q := [.int (i32 (nd))]) rfl (jl_iloadn gL670_2) ?_
              refine jx_rt (v := some (.int (i32 (nd)))) rfl rfl rfl rfl rfl rfl ?_
              exact ⟨_, _, _, at2_919, fk2_946, nd2_655, ln2_945, ec2_656, rfl, rfl, hW947, hF952, hP953, by omega, ((hF948.1 10 rfl).trans (e924)), (e950), ((hF948.1 31 rfl).trans ((hF923.1 31 rfl).trans ((hF833.1 31 rfl).trans ((hF676.1 31 rfl).trans (e660))))), (e949), ec956, by omega, by omega, by omega, by omega, by omega, by first | exact Or.inl (⟨by omega, by omega, by omega⟩)⟩
          · have _q : True := trivial
            exfalso
            omega
    · have _q : True := trivial
      have pz964 : at0 + tz tk2_830 ≤ at2_829 := by omega
      refine jx_ld (pc_q := 38) (l_q := L670) (st_q := [.int (i32 (mp))]) rfl (jl_iloadn gL670_3) ?_
      refine jx_if_ne (pc_q := 41) (tg := 57) rfl rfl rfl (Int.le_trans (by decide : (-2147483648 : Int) ≤ 0) b_mp.1) (Int.le_trans b_mp.2 (by decide : (6 : Int) ≤ 2147483647)) (fun h965 => ?_) (fun h965 => ?_)
      · have _q := h965
        have z966 := tz_f (tk2_830)
        exact c_readCall_w_at_57 (X := X) (d := d) (Vs := Vs) (sb := sb) (pb := pb) (c0 := c0) (c1 := c1) (G := G) (A := A) (T := T) (s := s) (ln := ln) (le := le) (at0 := at0) (fk := fk) (op0 := op0) (nd := nd) (tk0 := tk0) (li := li) (kd := kd) (nu := nu) (mp := mp) (pp := pp) (ec := ec) (sy := sy) (hd := hd) (hW := hW) (e_ln := e_ln) (e_le := e_le) (e_at0 := e_at0) (e_fk := e_fk) (e_op0 := e_op0) (e_nd := e_nd) (e_tk0 := e_tk0) (e_li := e_li) (e_kd := e_kd) (e_nu := e_nu) (e_mp := e_mp) (e_pp := e_pp) (e_ec := e_ec) (e_sy := e_sy) (i_SV := i_SV) (i_PQ := i_PQ) (h_s := h_s) (p_0 := p_0) (p_1 := p_1) (p_2 := p_2) (p_3 := p_3) (p_4 := p_4) (p_5 := p_5) (p_6 := p_6) (p_7 := p_7) (p_8 := p_8) L670 G827 A828 (nd) (mp) (at2_829) (tk2_830) (fk2_831) (nd2_655) (op2_674) (ec2_656) gL670_0 gL670_1 gL670_2 gL670_3 hW832 hF840 hP841 ((e834)) ((e835)) ((e836)) (((hF833.1 31 rfl).trans ((hF676.1 31 rfl).trans (e660)))) (((hF833.1 15 rfl).trans (e678))) (ec844) (((hF833.1 9 rfl).trans ((hF676.1 9 rfl).trans ((hF658.1 9 rfl).trans (e_ln))))) (by omega) (by omega) (by omega) (by omega) (by omega) (by omega) (by omega) (by omega) (by omega) (by omega) (by omega) (by omega) (by omega) (by omega) (sf842) (by omega) ((NdM_w sf843 (by omega) (by omega) (by omega)))
      · have _q := h965
        refine jx_ld (pc_q := 42) (l_q := L670) (st_q := [.ref 66]) rfl (jl_aloadn gL670_0) ?_
        refine jx_ld (pc_q := 43) (l_q := L670) (st_q := [.ref 66, .ref 66]) rfl (jl_aloadn gL670_0) ?_
        refine jx_ar (pc_q := 45) (st_q := [.int (i32 (41)), .ref 66, .ref 66]) rfl rfl rfl rfl ?_
        have b967 : (-2147483648 : Int) ≤ G827 13 ∧ G827 13 ≤ 2147483647 := hW832.1 13
        refine jx_vr (pc_q := 48) (as := [.int (i32 (41))]) (st := [.ref 66]) rfl rfl rfl rfl ⟨rfl, rfl, Nat.le_of_ble_eq_true rfl⟩ rfl rfl (c_is (dd := d) (hd := by omega) (hW := hW832) (k := 41) (tk := tk2_830) (e_tk := show G827 11 = tk2_830 from (e835)) (tn := G827 13) (e_tn := show G827 13 = G827 13 from rfl)  (h_k := ⟨(by decide), (by decide)⟩)  ) (fun o V_q hq => ?_)
        obtain ⟨r968, rfl, rfl, b969, q970⟩ := hq
        refine .inr ⟨_, rfl, ?_⟩
        rcases q970 with ⟨rfl, a971, a972, a973⟩ | rfl
        · have _q : True := trivial
          refine jx_vr (pc_q := 51) (as := [.int (i32 (1))]) (st := []) rfl rfl rfl rfl ⟨rfl, rfl, Nat.le_of_ble_eq_true rfl⟩ rfl rfl (c_need (dd := d) (hd := by omega) (hW := hW832) (g := 1) (ln := ln) (e_ln := show G827 9 = ln from ((hF833.1 9 rfl).trans ((hF676.1 9 rfl).trans ((hF658.1 9 rfl).trans (e_ln))))) (le := le) (e_le := show A828 4 (ln).toNat = le from (congrFun ((hF833.2 4 rfl).trans ((hF676.2 4 rfl).trans (hF658.2 4 rfl))) _).trans (e_le)) (at0 := at2_829) (e_at0 := show G827 10 = at2_829 from (e834)) (fk := fk2_831) (e_fk := show G827 16 = fk2_831 from (e836)) (tk0 := tk2_830) (e_tk0 := show G827 11 = tk2_830 from (e835))  (h_g := ⟨(by decide), (by decide)⟩)  (p_0 := by omega)) (fun o V_q hq => ?_)
          obtain ⟨G974, A975, at2_976, tk2_977, fk2_978, rfl, rfl, hW979, hF980, e981, e982, e983, p984, p985, q986⟩ := hq
          have hF987 := Fr_tr hF840 hF980 (Fr_sub (by decide)) (Fr_sub (by decide))
          have hP988 := Pf_f hP841 hF980 (by decide)
          have sf989 : ND A975 (nd) (25) (nu) (0) (0) (0) (0) (0) := ND_ag (by omega) (Ag_fr hF980 (by decide)) sf842
          have sf990 : NdM A975 (nd) (nd + 1) (sy) := NdM_f hF980 (by decide) sf843
          have ec991 : ecn A975 (G974 31) = ec2_656 := (ecn_f (hF980.2 15 rfl) (hF980.1 31 rfl)).trans ec844
          have bat2_976 : (0 : Int) ≤ at2_976 ∧ at2_976 ≤ 3002 := e981 ▸ hW979.1 10
          have ztk2_977 := tz_b tk2_977
          have btk2_977 : (0 : Int) ≤ tk2_977 ∧ tk2_977 ≤ 5 := e982 ▸ hW979.1 11
          have bfk2_978 : (0 : Int) ≤ fk2_978 ∧ fk2_978 ≤ 6 := e983 ▸ hW979.1 16
          refine .inl ⟨rfl, ?_⟩
          rcases q986 with ⟨a992, a993, a994, a995⟩ | ⟨a996, a997, a998, a999⟩
          · have _q : True := trivial
            refine jx_ld (pc_q := 52) (l_q := L670) (st_q := [.ref 66]) rfl (jl_aloadn gL670_0) ?_
            refine jx_vr (pc_q := 55) (as := []) (st := []) rfl rfl rfl rfl ⟨rfl, rfl, Nat.le_of_ble_eq_true rfl⟩ rfl rfl (c_endLine (dd := d) (hd := by omega) (hW := hW979)  (ln := ln) (e_ln := show G974 9 = ln from ((hF980.1 9 rfl).trans ((hF833.1 9 rfl).trans ((hF676.1 9 rfl).trans ((hF658.1 9 rfl).trans (e_ln)))))) (li := li) (e_li := show G974 3 = li from ((hF980.1 3 rfl).trans ((hF833.1 3 rfl).trans ((hF676.1 3 rfl).trans ((hF658.1 3 rfl).trans (e_li)))))) (fk := fk2_978) (e_fk := show G974 16 = fk2_978 from (e983)) (tk0 := tk2_977) (e_tk0 := show G974 11 = tk2_977 from (e982))    (p_0 := by omega)) (fun o V_q hq => ?_)
            obtain ⟨G1000, A1001, ln2_1002, fk2_1003, rfl, rfl, hW1004, hF1005, e1006, e1007, q1008⟩ := hq
            have hF1009 := Fr_tr hF987 hF1005 (Fr_sub (by decide)) (Fr_sub (by decide))
            have hP1010 := Pf_f hP988 hF1005 (by decide)
            have sf1011 : ND A1001 (nd) (25) (nu) (0) (0) (0) (0) (0) := ND_ag (by omega) (Ag_fr hF1005 (by decide)) sf989
            have sf1012 : NdM A1001 (nd) (nd + 1) (sy) := NdM_f hF1005 (by decide) sf990
            have ec1013 : ecn A1001 (G1000 31) = ec2_656 := (ecn_f (hF1005.2 15 rfl) (hF1005.1 31 rfl)).trans ec991
            have bln2_1002 : (0 : Int) ≤ ln2_1002 ∧ ln2_1002 ≤ 3000 := e1006 ▸ hW1004.1 9
            have bfk2_1003 : (0 : Int) ≤ fk2_1003 ∧ fk2_1003 ≤ 6 := e1007 ▸ hW1004.1 16
            refine .inl ⟨rfl, ?_⟩
            rcases q1008 with ⟨a1014, a1015, a1016, a1017, a1018⟩ | ⟨a1019, a1020⟩
            · have _q : True := trivial
              exfalso
              omega
            · have _q : True := trivial
              refine jx_ld (pc_q := 56) (l_q := L670) (st_q := [.int (i32 (nd))]) rfl (jl_iloadn gL670_2) ?_
              refine jx_rt (v := some (.int (i32 (nd)))) rfl rfl rfl rfl rfl rfl ?_
              exact ⟨_, _, _, at2_976, fk2_1003, nd2_655, ln2_1002, ec2_656, rfl, rfl, hW1004, hF1009, hP1010, by omega, ((hF1005.1 10 rfl).trans (e981)), (e1007), ((hF1005.1 31 rfl).trans ((hF980.1 31 rfl).trans ((hF833.1 31 rfl).trans ((hF676.1 31 rfl).trans (e660))))), (e1006), ec1013, by omega, by omega, by omega, by omega, by omega, by first | exact Or.inl (⟨by omega, by omega, by omega⟩)⟩
          · have _q : True := trivial
            have pz1021 : at2_829 + tz tk2_977 ≤ at2_976 := by omega
            refine jx_ld (pc_q := 52) (l_q := L670) (st_q := [.ref 66]) rfl (jl_aloadn gL670_0) ?_
            refine jx_vr (pc_q := 55) (as := []) (st := []) rfl rfl rfl rfl ⟨rfl, rfl, Nat.le_of_ble_eq_true rfl⟩ rfl rfl (c_endLine (dd := d) (hd := by omega) (hW := hW979)  (ln := ln) (e_ln := show G974 9 = ln from ((hF980.1 9 rfl).trans ((hF833.1 9 rfl).trans ((hF676.1 9 rfl).trans ((hF658.1 9 rfl).trans (e_ln)))))) (li := li) (e_li := show G974 3 = li from ((hF980.1 3 rfl).trans ((hF833.1 3 rfl).trans ((hF676.1 3 rfl).trans ((hF658.1 3 rfl).trans (e_li)))))) (fk := fk2_978) (e_fk := show G974 16 = fk2_978 from (e983)) (tk0 := tk2_977) (e_tk0 := show G974 11 = tk2_977 from (e982))    (p_0 := by omega)) (fun o V_q hq => ?_)
            obtain ⟨G1022, A1023, ln2_1024, fk2_1025, rfl, rfl, hW1026, hF1027, e1028, e1029, q1030⟩ := hq
            have hF1031 := Fr_tr hF987 hF1027 (Fr_sub (by decide)) (Fr_sub (by decide))
            have hP1032 := Pf_f hP988 hF1027 (by decide)
            have sf1033 : ND A1023 (nd) (25) (nu) (0) (0) (0) (0) (0) := ND_ag (by omega) (Ag_fr hF1027 (by decide)) sf989
            have sf1034 : NdM A1023 (nd) (nd + 1) (sy) := NdM_f hF1027 (by decide) sf990
            have ec1035 : ecn A1023 (G1022 31) = ec2_656 := (ecn_f (hF1027.2 15 rfl) (hF1027.1 31 rfl)).trans ec991
            have bln2_1024 : (0 : Int) ≤ ln2_1024 ∧ ln2_1024 ≤ 3000 := e1028 ▸ hW1026.1 9
            have bfk2_1025 : (0 : Int) ≤ fk2_1025 ∧ fk2_1025 ≤ 6 := e1029 ▸ hW1026.1 16
            refine .inl ⟨rfl, ?_⟩
            rcases q1030 with ⟨a1036, a1037, a1038, a1039, a1040⟩ | ⟨a1041, a1042⟩
            · have _q : True := trivial
              refine jx_ld (pc_q := 56) (l_q := L670) (st_q := [.int (i32 (nd))]) rfl (jl_iloadn gL670_2) ?_
              refine jx_rt (v := some (.int (i32 (nd)))) rfl rfl rfl rfl rfl rfl ?_
              exact ⟨_, _, _, at2_976, fk2_1025, nd2_655, ln2_1024, ec2_656, rfl, rfl, hW1026, hF1031, hP1032, by omega, ((hF1027.1 10 rfl).trans (e981)), (e1029), ((hF1027.1 31 rfl).trans ((hF980.1 31 rfl).trans ((hF833.1 31 rfl).trans ((hF676.1 31 rfl).trans (e660))))), (e1028), ec1035, by omega, by omega, by omega, by omega, by omega, by first | exact Or.inr ((⟨by omega, by omega, by omega, by omega, by omega, (wL_call (last := 0) sf1033 (by omega) (by omega) (by omega) ((show A1023 30 (nu).toNat = mp from (congrFun ((hF1027.2 30 rfl).trans ((hF980.2 30 rfl).trans ((hF833.2 30 rfl).trans ((hF676.2 30 rfl).trans (hF658.2 30 rfl))))) _).trans (e_mp)).trans (by omega : mp = 0)) ((show A1023 29 (nu).toNat = pp from (congrFun ((hF1027.2 29 rfl).trans ((hF980.2 29 rfl).trans ((hF833.2 29 rfl).trans ((hF676.2 29 rfl).trans (hF658.2 29 rfl))))) _).trans (e_pp)).trans (by omega : pp = pp)) (CA_eq (CA_nil (lo := nd + 1) (ND_f0 sf1033)) (by omega) (by omega) (by omega) (by omega) (by omega))), (NX_nd sf1033), by omega, (NdM_w sf1034 (by omega) (by omega) (by omega))⟩))⟩
            · have _q : True := trivial
              refine jx_ld (pc_q := 56) (l_q := L670) (st_q := [.int (i32 (nd))]) rfl (jl_iloadn gL670_2) ?_
              refine jx_rt (v := some (.int (i32 (nd)))) rfl rfl rfl rfl rfl rfl ?_
              exact ⟨_, _, _, at2_976, fk2_1025, nd2_655, ln2_1024, ec2_656, rfl, rfl, hW1026, hF1031, hP1032, by omega, ((hF1027.1 10 rfl).trans (e981)), (e1029), ((hF1027.1 31 rfl).trans ((hF980.1 31 rfl).trans ((hF833.1 31 rfl).trans ((hF676.1 31 rfl).trans (e660))))), (e1028), ec1035, by omega, by omega, by omega, by omega, by omega, by first | exact Or.inl (⟨by omega, by omega, by omega⟩)⟩
        · have _q : True := trivial
          refine jx_vr (pc_q := 51) (as := [.int (i32 (0))]) (st := []) rfl rfl rfl rfl ⟨rfl, rfl, Nat.le_of_ble_eq_true rfl⟩ rfl rfl (c_need (dd := d) (hd := by omega) (hW := hW832) (g := 0) (ln := ln) (e_ln := show G827 9 = ln from ((hF833.1 9 rfl).trans ((hF676.1 9 rfl).trans ((hF658.1 9 rfl).trans (e_ln))))) (le := le) (e_le := show A828 4 (ln).toNat = le from (congrFun ((hF833.2 4 rfl).trans ((hF676.2 4 rfl).trans (hF658.2 4 rfl))) _).trans (e_le)) (at0 := at2_829) (e_at0 := show G827 10 = at2_829 from (e834)) (fk := fk2_831) (e_fk := show G827 16 = fk2_831 from (e836)) (tk0 := tk2_830) (e_tk0 := show G827 11 = tk2_830 from (e835))  (h_g := ⟨(by decide), (by decide)⟩)  (p_0 := by omega)) (fun o V_q hq => ?_)
          obtain ⟨G1043, A1044, at2_1045, tk2_1046, fk2_1047, rfl, rfl, hW1048, hF1049, e1050, e1051, e1052, p1053, p1054, q1055⟩ := hq
          have hF1056 := Fr_tr hF840 hF1049 (Fr_sub (by decide)) (Fr_sub (by decide))
          have hP1057 := Pf_f hP841 hF1049 (by decide)
          have sf1058 : ND A1044 (nd) (25) (nu) (0) (0) (0) (0) (0) := ND_ag (by omega) (Ag_fr hF1049 (by decide)) sf842
          have sf1059 : NdM A1044 (nd) (nd + 1) (sy) := NdM_f hF1049 (by decide) sf843
          have ec1060 : ecn A1044 (G1043 31) = ec2_656 := (ecn_f (hF1049.2 15 rfl) (hF1049.1 31 rfl)).trans ec844
          have bat2_1045 : (0 : Int) ≤ at2_1045 ∧ at2_1045 ≤ 3002 := e1050 ▸ hW1048.1 10
          have ztk2_1046 := tz_b tk2_1046
          have btk2_1046 : (0 : Int) ≤ tk2_1046 ∧ tk2_1046 ≤ 5 := e1051 ▸ hW1048.1 11
          have bfk2_1047 : (0 : Int) ≤ fk2_1047 ∧ fk2_1047 ≤ 6 := e1052 ▸ hW1048.1 16
          refine .inl ⟨rfl, ?_⟩
          rcases q1055 with ⟨a1061, a1062, a1063, a1064⟩ | ⟨a1065, a1066, a1067, a1068⟩
          · have _q : True := trivial
            refine jx_ld (pc_q := 52) (l_q := L670) (st_q := [.ref 66]) rfl (jl_aloadn gL670_0) ?_
            refine jx_vr (pc_q := 55) (as := []) (st := []) rfl rfl rfl rfl ⟨rfl, rfl, Nat.le_of_ble_eq_true rfl⟩ rfl rfl (c_endLine (dd := d) (hd := by omega) (hW := hW1048)  (ln := ln) (e_ln := show G1043 9 = ln from ((hF1049.1 9 rfl).trans ((hF833.1 9 rfl).trans ((hF676.1 9 rfl).trans ((hF658.1 9 rfl).trans (e_ln)))))) (li := li) (e_li := show G1043 3 = li from ((hF1049.1 3 rfl).trans ((hF833.1 3 rfl).trans ((hF676.1 3 rfl).trans ((hF658.1 3 rfl).trans (e_li)))))) (fk := fk2_1047) (e_fk := show G1043 16 = fk2_1047 from (e1052)) (tk0 := tk2_1046) (e_tk0 := show G1043 11 = tk2_1046 from (e1051))    (p_0 := by omega)) (fun o V_q hq => ?_)
            obtain ⟨G1069, A1070, ln2_1071, fk2_1072, rfl, rfl, hW1073, hF1074, e1075, e1076, q1077⟩ := hq
            have hF1078 := Fr_tr hF1056 hF1074 (Fr_sub (by decide)) (Fr_sub (by decide))
            have hP1079 := Pf_f hP1057 hF1074 (by decide)
            have sf1080 : ND A1070 (nd) (25) (nu) (0) (0) (0) (0) (0) := ND_ag (by omega) (Ag_fr hF1074 (by decide)) sf1058
            have sf1081 : NdM A1070 (nd) (nd + 1) (sy) := NdM_f hF1074 (by decide) sf1059
            have ec1082 : ecn A1070 (G1069 31) = ec2_656 := (ecn_f (hF1074.2 15 rfl) (hF1074.1 31 rfl)).trans ec1060
            have bln2_1071 : (0 : Int) ≤ ln2_1071 ∧ ln2_1071 ≤ 3000 := e1075 ▸ hW1073.1 9
            have bfk2_1072 : (0 : Int) ≤ fk2_1072 ∧ fk2_1072 ≤ 6 := e1076 ▸ hW1073.1 16
            refine .inl ⟨rfl, ?_⟩
            rcases q1077 with ⟨a1083, a1084, a1085, a1086, a1087⟩ | ⟨a1088, a1089⟩
            · have _q : True := trivial
              exfalso
              omega
            · have _q : True := trivial
              refine jx_ld (pc_q := 56) (l_q := L670) (st_q := [.int (i32 (nd))]) rfl (jl_iloadn gL670_2) ?_
              refine jx_rt (v := some (.int (i32 (nd)))) rfl rfl rfl rfl rfl rfl ?_
              exact ⟨_, _, _, at2_1045, fk2_1072, nd2_655, ln2_1071, ec2_656, rfl, rfl, hW1073, hF1078, hP1079, by omega, ((hF1074.1 10 rfl).trans (e1050)), (e1076), ((hF1074.1 31 rfl).trans ((hF1049.1 31 rfl).trans ((hF833.1 31 rfl).trans ((hF676.1 31 rfl).trans (e660))))), (e1075), ec1082, by omega, by omega, by omega, by omega, by omega, by first | exact Or.inl (⟨by omega, by omega, by omega⟩)⟩
          · have _q : True := trivial
            exfalso
            omega
