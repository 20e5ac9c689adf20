set_option maxRecDepth 20000 in
set_option maxHeartbeats 4000000 in
theorem c_readArgument_w {X : jX} {dd : Nat} {Vs : Nat → Prop} {sb : Int} {c0 c1 : jC} {G : Nat → Int} {A : Nat → Nat → Int} {T : jH} {pa : Int} {ln le at0 fk op0 nd tk0 kp zp ec : Int} (hd : 70 ≤ dd) (hW : Wk G A) (e_ln : G 9 = ln) (e_le : A 4 (ln).toNat = le) (e_at0 : G 10 = at0) (e_fk : G 16 = fk) (e_op0 : G 15 = op0) (e_nd : G 31 = nd) (e_tk0 : G 11 = tk0) (e_kp : A 7 (pa).toNat = kp) (e_zp : A 8 (pa).toNat = zp) (e_ec : ecn A (G 31) = ec) (i_SV : SV Vs sb G A) (h_pa : (-2147483648 : Int) ≤ pa ∧ pa ≤ 2147483647) (p_0 : 0 ≤ op0) (p_1 : op0 ≤ 9) (p_2 : op0 ≤ 8 ∨ 1 ≤ fk) (p_3 : nd ≤ 2 * at0 - tz tk0 + 47) (p_4 : at0 ≤ le) (p_5 : fk = 0) (p_6 : op0 ≤ 8) (p_7 : 0 ≤ pa ∧ pa ≤ 208) (p_8 : 5 ≤ kp ∧ kp ≤ 8) (p_9 : pa < sb) : wk X dd 306 [.ref 66, .int (i32 pa)] (rV c0 c1 G A T) (fun o V' => ∃ (G' : Nat → Int) (A' : Nat → Nat → Int) (r : Int) (at2 : Int) (fk2 : Int) (op2 : Int) (nd2 : Int) (tk2 : Int) (ec2 : Int), V' = rV c0 c1 G' A' T ∧ o = .inl (some (.int (i32 r))) ∧ Wk G' A' ∧ Fr [10, 11, 12, 13, 14, 15, 16, 17, 18, 31] [15, 16, 17, 18, 19, 20, 21, 22, 24, 28] G A G' A' ∧ Pf nd A A' ∧ ((-2147483648 : Int) ≤ r ∧ r ≤ 2147483647) ∧ G' 10 = at2 ∧ G' 16 = fk2 ∧ G' 15 = op2 ∧ G' 31 = nd2 ∧ G' 11 = tk2 ∧ ecn A' (G' 31) = ec2 ∧ (at0 ≤ at2) ∧ (at2 ≤ le) ∧ (nd ≤ nd2) ∧ (op2 = op0) ∧ (0 ≤ r) ∧ (r ≤ nd2) ∧ (((fk = 0) ∧ (1 ≤ fk2) ∧ (nd2 - nd ≤ (2 * at2 - tz tk2) - (2 * at0 - tz tk0) + 3)) ∨ ((fk = 0) ∧ (fk2 = 0) ∧ (nd2 - nd ≤ (2 * at2 - tz tk2) - (2 * at0 - tz tk0) + 1) ∧ (nd ≤ r) ∧ (r < nd2) ∧ (wA A' Vs sb (pa) (r) (nd) (nd2)) ∧ (NX A' (r)) ∧ (nd2 - nd + 5 * (ec2 - ec) ≤ (2 * at2 - tz tk2) - (2 * at0 - tz tk0) + 1 - tz tk2)))) := by
  obtain ⟨d, rfl⟩ : ∃ d, dd = d + 1 := ⟨dd - 1, by omega⟩
  refine wk_of (e := jm306) rfl (Nat.le_of_ble_eq_true rfl) ?_
  show wj X d jm306 (0, [(0, .ref 66), (1, .int (i32 (pa)))], [], rV c0 c1 G A T) _
  have hF0 : Fr [10, 11, 12, 13, 14, 15, 16, 17, 18, 31] [15, 16, 17, 18, 19, 20, 21, 22, 24, 28] G A G A := Fr_rf
  have hP0 : Pf nd A A := Pf_rf
  have b_ln : (0 : Int) ≤ ln ∧ ln ≤ 3000 := e_ln ▸ hW.1 9
  have b_le : (0 : Int) ≤ le ∧ le ≤ 3000 := e_le ▸ hW.2 4 _
  have b_at0 : (0 : Int) ≤ at0 ∧ at0 ≤ 3002 := e_at0 ▸ hW.1 10
  have b_fk : (0 : Int) ≤ fk ∧ fk ≤ 6 := e_fk ▸ hW.1 16
  have b_op0 : (-2147483648 : Int) ≤ op0 ∧ op0 ≤ 2147483647 := e_op0 ▸ hW.1 15
  have b_nd : (0 : Int) ≤ nd ∧ nd ≤ 6999 := e_nd ▸ hW.1 31
  have z_tk0 := tz_f tk0
  have b_tk0 : (0 : Int) ≤ tk0 ∧ tk0 ≤ 5 := e_tk0 ▸ hW.1 11
  have b_kp : (0 : Int) ≤ kp ∧ kp ≤ 14 := e_kp ▸ hW.2 7 _
  have b_zp : (-2147483648 : Int) ≤ zp ∧ zp ≤ 2147483647 := e_zp ▸ hW.2 8 _
  refine jx_ld (pc' := 1) (l' := [(0, .ref 66), (1, .int (i32 (pa)))]) (st' := [.ref 66]) rfl (jl_aloadn rfl) ?_
  refine jr_get (pc' := 4) (i := 21) (v := .ref 74) rfl rfl (by decide) rfl rfl ?_
  refine jx_ld (pc' := 5) (l' := [(0, .ref 66), (1, .int (i32 (pa)))]) (st' := [.int (i32 (pa)), .ref 74]) rfl (jl_iloadn rfl) ?_
  refine jr_ldv (pc' := 6) (i := 7) (m := 260) (z := pa) (y := kp) rfl (by decide) rfl (by decide) (by omega) (by omega) rfl (show A 7 (pa).toNat = kp from (e_kp)) ?_
  refine jx_ld (pc' := 7) (l' := jSto1 [(0, .ref 66), (1, .int (i32 (pa)))] 2 (.int (i32 (kp)))) (st' := []) rfl rfl ?_
  obtain ⟨L1, eL1⟩ : ∃ q, q = jSto1 [(0, .ref 66), (1, .int (i32 (pa)))] 2 (.int (i32 (kp))) := ⟨_, rfl⟩
  rw [← eL1]
  have gL1_0 : jGet L1 0 = some (.ref 66) := eL1 ▸ jg_ne (by decide) (rfl : jGet [(0, .ref 66), (1, .int (i32 (pa)))] 0 = some (.ref 66)) rfl
  have gL1_1 : jGet L1 1 = some (.int (i32 (pa))) := eL1 ▸ jg_ne (by decide) (rfl : jGet [(0, .ref 66), (1, .int (i32 (pa)))] 1 = some (.int (i32 (pa)))) rfl
  have gL1_2 : jGet L1 2 = some (.int (i32 (kp))) := eL1 ▸ jg_eq
  refine jx_ar (pc' := 8) (st' := [.int (i32 (0))]) rfl rfl rfl rfl ?_
  refine jx_ld (pc' := 9) (l' := jSto1 L1 3 (.int (i32 (0)))) (st' := []) rfl rfl ?_
  obtain ⟨L2, eL2⟩ : ∃ q, q = jSto1 L1 3 (.int (i32 (0))) := ⟨_, rfl⟩
  rw [← eL2]
  have gL2_0 : jGet L2 0 = some (.ref 66) := eL2 ▸ jg_ne (by decide) gL1_0 rfl
  have gL2_1 : jGet L2 1 = some (.int (i32 (pa))) := eL2 ▸ jg_ne (by decide) gL1_1 rfl
  have gL2_2 : jGet L2 2 = some (.int (i32 (kp))) := eL2 ▸ jg_ne (by decide) gL1_2 rfl
  have gL2_3 : jGet L2 3 = some (.int (i32 (0))) := eL2 ▸ jg_eq
  refine jx_ld (pc' := 10) (l' := L2) (st' := [.ref 66]) rfl (jl_aloadn gL2_0) ?_
  refine jx_ar (pc' := 12) (st' := [.int (i32 (41)), .ref 66]) rfl rfl rfl rfl ?_
  have b3 : (-2147483648 : Int) ≤ G 13 ∧ G 13 ≤ 2147483647 := hW.1 13
  refine jx_vr (pc' := 15) (as := [.int (i32 (41))]) (st := []) rfl rfl rfl rfl ⟨rfl, rfl, Nat.le_of_ble_eq_true rfl⟩ rfl rfl (c_is (dd := d) (hd := by omega) (hW := hW) (k := 41) (tk := tk0) (e_tk := show G 11 = tk0 from (e_tk0)) (tn := G 13) (e_tn := show G 13 = G 13 from rfl)  (h_k := ⟨(by decide), (by decide)⟩)  ) (fun o V' hq => ?_)
  obtain ⟨r4, rfl, rfl, b5, q6⟩ := hq
  refine .inr ⟨_, rfl, ?_⟩
  rcases q6 with ⟨rfl, a7, a8, a9⟩ | rfl
  · have _q : True := trivial
    refine jx_if_eq (pc' := 18) (tg := 30) rfl rfl rfl (by decide) (by decide) (fun h10 => ?_) (fun h10 => ?_)
    · have _q := h10
      exact absurd h10 (by omega)
    · have _q := h10
      refine jx_ld (pc' := 19) (l' := L2) (st' := [.ref 66]) rfl (jl_aloadn gL2_0) ?_
      refine jx_ar (pc' := 20) (st' := [.int (i32 (4)), .ref 66]) rfl rfl rfl rfl ?_
      refine jx_ld (pc' := 21) (l' := L2) (st' := [.ref 66, .int (i32 (4)), .ref 66]) rfl (jl_aloadn gL2_0) ?_
      have b11 : (-3000 : Int) ≤ G 12 ∧ G 12 ≤ 3002 := hW.1 12
      refine jr_get (pc' := 24) (i := 12) (v := .int (i32 (G 12))) rfl rfl (by decide) rfl rfl ?_
      refine jx_vr (pc' := 27) (as := [.int (i32 (4)), .int (i32 (G 12))]) (st := []) rfl rfl rfl rfl ⟨rfl, rfl, Nat.le_of_ble_eq_true rfl⟩ rfl rfl (c_fail (dd := d) (hd := by omega) (hW := hW) (kind := 4) (place := G 12) (fk := fk) (e_fk := show G 16 = fk from (e_fk))  (h_kind := ⟨(by decide), (by decide)⟩) (h_place := ⟨(Int.le_trans (by decide : (-2147483648 : Int) ≤ -3000) b11.1), (Int.le_trans b11.2 (by decide : (3002 : Int) ≤ 2147483647))⟩)  (p_0 := by omega) (p_1 := by omega)) (fun o V' hq => ?_)
      obtain ⟨G12, A13, fk2_14, rfl, rfl, hW15, hF16, e17, p18, -⟩ := hq
      have hF20 := Fr_tr hF0 hF16 (Fr_sub (by decide)) (Fr_sub (by decide))
      have hP21 := Pf_f hP0 hF16 (by decide)
      have ec22 : ecn A13 (G12 31) = ec := (ecn_f (hF16.2 15 rfl) (hF16.1 31 rfl)).trans e_ec
      have bfk2_14 : (0 : Int) ≤ fk2_14 ∧ fk2_14 ≤ 6 := e17 ▸ hW15.1 16
      refine .inl ⟨rfl, ?_⟩
      refine jx_go (tg := 172) rfl rfl ?_
      refine jx_ld (pc' := 173) (l' := L2) (st' := [.ref 66]) rfl (jl_aloadn gL2_0) ?_
      refine jx_ar (pc' := 175) (st' := [.int (i32 (7)), .ref 66]) rfl rfl rfl rfl ?_
      refine jx_ld (pc' := 176) (l' := L2) (st' := [.int (i32 (0)), .int (i32 (7)), .ref 66]) rfl (jl_iloadn gL2_3) ?_
      refine jx_ld (pc' := 177) (l' := L2) (st' := [.int (i32 (pa)), .int (i32 (0)), .int (i32 (7)), .ref 66]) rfl (jl_iloadn gL2_1) ?_
      refine jx_ar (pc' := 178) (st' := [.int (i32 (0)), .int (i32 (pa)), .int (i32 (0)), .int (i32 (7)), .ref 66]) rfl rfl rfl rfl ?_
      refine jx_ar (pc' := 179) (st' := [.int (i32 (0)), .int (i32 (0)), .int (i32 (pa)), .int (i32 (0)), .int (i32 (7)), .ref 66]) rfl rfl rfl rfl ?_
      refine jx_vr (pc' := 182) (as := [.int (i32 (7)), .int (i32 (0)), .int (i32 (pa)), .int (i32 (0)), .int (i32 (0))]) (st := []) rfl rfl rfl rfl ⟨rfl, rfl, Nat.le_of_ble_eq_true rfl⟩ rfl rfl (c_node_o (dd := d) (hd := by omega) (hW := hW15) (kind := 7) (a := 0) (b := pa) (c := 0) (e := 0) (nd := nd) (e_nd := show G12 31 = nd from ((hF16.1 31 rfl).trans (e_nd))) (ec := ec) (e_ec := show ecn A13 (G12 31) = ec from ec22)  (h_kind := ⟨(by decide), (by decide)⟩) (h_a := ⟨(by decide), (by decide)⟩) (h_b := ⟨(Int.le_trans (by decide : (-2147483648 : Int) ≤ -2147483648) h_pa.1), (Int.le_trans h_pa.2 (by decide : (2147483647 : Int) ≤ 2147483647))⟩) (h_c := ⟨(by decide), (by decide)⟩) (h_e := ⟨(by decide), (by decide)⟩)  (p_0 := by omega) (p_1 := by omega) (p_2 := by omega)) (fun o V' hq => ?_)
      obtain ⟨G23, A24, nd2_25, ec2_26, rfl, rfl, hW27, hF28, hQ29, e30, e31, p32, p33, p34, -⟩ := hq
      have hF36 := Fr_tr hF20 hF28 (Fr_sub (by decide)) (Fr_sub (by decide))
      have hP37 := Pf_tr hP21 hQ29 (by omega)
      have bnd2_25 : (0 : Int) ≤ nd2_25 ∧ nd2_25 ≤ 6999 := e30 ▸ hW27.1 31
      refine .inr ⟨_, rfl, ?_⟩
      refine jx_rt (v := some (.int (i32 (nd)))) rfl rfl rfl rfl rfl rfl ?_
      have z38 := tz_f (tk0)
      exact ⟨_, _, _, at0, fk2_14, op0, nd2_25, tk0, ec2_26, rfl, rfl, hW27, hF36, hP37, by omega, ((hF28.1 10 rfl).trans ((hF16.1 10 rfl).trans (e_at0))), ((hF28.1 16 rfl).trans (e17)), ((hF28.1 15 rfl).trans ((hF16.1 15 rfl).trans (e_op0))), (e30), ((hF28.1 11 rfl).trans ((hF16.1 11 rfl).trans (e_tk0))), e31, by omega, by omega, by omega, by omega, by omega, by omega, by first | exact Or.inl (⟨by omega, by omega, by omega⟩)⟩
  · have _q : True := trivial
    refine jx_if_eq (pc' := 18) (tg := 30) rfl rfl rfl (by decide) (by decide) (fun h39 => ?_) (fun h39 => ?_)
    · have _q := h39
      refine jx_ld (pc' := 31) (l' := L2) (st' := [.int (i32 (kp))]) rfl (jl_iloadn gL2_2) ?_
      refine jx_ar (pc' := 32) (st' := [.int (i32 (5)), .int (i32 (kp))]) rfl rfl rfl rfl ?_
      refine jx_icmp_ne (pc' := 35) (tg := 43) rfl rfl rfl (Int.le_trans (by decide : (-2147483648 : Int) ≤ 0) b_kp.1) (Int.le_trans b_kp.2 (by decide : (14 : Int) ≤ 2147483647)) (by decide) (by decide) (fun h40 => ?_) (fun h40 => ?_)
      · have _q := h40
        refine jx_ld (pc' := 44) (l' := L2) (st' := [.ref 66]) rfl (jl_aloadn gL2_0) ?_
        have z41 := tz_f (tk0)
        refine jr_get (pc' := 47) (i := 11) (v := .int (i32 (tk0))) rfl rfl (by decide) (rFv_eq (by decide) (show G 11 = tk0 from (e_tk0))) rfl ?_
        refine jx_ar (pc' := 48) (st' := [.int (i32 (1)), .int (i32 (tk0))]) rfl rfl rfl rfl ?_
        refine jx_icmp_eq (pc' := 51) (tg := 63) rfl rfl rfl (Int.le_trans (by decide : (-2147483648 : Int) ≤ 0) b_tk0.1) (Int.le_trans b_tk0.2 (by decide : (5 : Int) ≤ 2147483647)) (by decide) (by decide) (fun h42 => ?_) (fun h42 => ?_)
        · have _q := h42
          refine jx_ld (pc' := 64) (l' := L2) (st' := [.ref 66]) rfl (jl_aloadn gL2_0) ?_
          have b43 : (-3000 : Int) ≤ G 12 ∧ G 12 ≤ 3002 := hW.1 12
          refine jr_get (pc' := 67) (i := 12) (v := .int (i32 (G 12))) rfl rfl (by decide) rfl rfl ?_
          refine jx_ld (pc' := 69) (l' := jSto1 L2 4 (.int (i32 (G 12)))) (st' := []) rfl rfl ?_
          obtain ⟨L44, eL44⟩ : ∃ q, q = jSto1 L2 4 (.int (i32 (G 12))) := ⟨_, rfl⟩
          rw [← eL44]
          have gL44_0 : jGet L44 0 = some (.ref 66) := eL44 ▸ jg_ne (by decide) gL2_0 rfl
          have gL44_1 : jGet L44 1 = some (.int (i32 (pa))) := eL44 ▸ jg_ne (by decide) gL2_1 rfl
          have gL44_2 : jGet L44 2 = some (.int (i32 (kp))) := eL44 ▸ jg_ne (by decide) gL2_2 rfl
          have gL44_3 : jGet L44 3 = some (.int (i32 (0))) := eL44 ▸ jg_ne (by decide) gL2_3 rfl
          have gL44_4 : jGet L44 4 = some (.int (i32 (G 12))) := eL44 ▸ jg_eq
          refine jx_ld (pc' := 70) (l' := L44) (st' := [.ref 66]) rfl (jl_aloadn gL44_0) ?_
          refine jx_vr (pc' := 73) (as := []) (st := []) rfl rfl rfl rfl ⟨rfl, rfl, Nat.le_of_ble_eq_true rfl⟩ rfl rfl (c_lookUp (dd := d) (hd := by omega) (hW := hW)  (fk := fk) (e_fk := show G 16 = fk from (e_fk)) (i_SV := (SV_ext (rfl) (rfl) i_SV))   ) (fun o V' hq => ?_)
          obtain ⟨G45, A46, r47, fk2_48, rfl, rfl, hW49, hF50, b51, e52, q53⟩ := hq
          have hF54 := Fr_tr hF0 hF50 (Fr_sub (by decide)) (Fr_sub (by decide))
          have hP55 := Pf_f hP0 hF50 (by decide)
          have ec56 : ecn A46 (G45 31) = ec := (ecn_f (hF50.2 15 rfl) (hF50.1 31 rfl)).trans e_ec
          have bfk2_48 : (0 : Int) ≤ fk2_48 ∧ fk2_48 ≤ 6 := e52 ▸ hW49.1 16
          refine .inr ⟨_, rfl, ?_⟩
          rcases q53 with ⟨a57, a58⟩ | ⟨a59, a60, a61, a62⟩
          · have _q : True := trivial
            refine jx_ld (pc' := 75) (l' := jSto1 L44 5 (.int (i32 (r47)))) (st' := []) rfl rfl ?_
            obtain ⟨L63, eL63⟩ : ∃ q, q = jSto1 L44 5 (.int (i32 (r47))) := ⟨_, rfl⟩
            rw [← eL63]
            have gL63_0 : jGet L63 0 = some (.ref 66) := eL63 ▸ jg_ne (by decide) gL44_0 rfl
            have gL63_1 : jGet L63 1 = some (.int (i32 (pa))) := eL63 ▸ jg_ne (by decide) gL44_1 rfl
            have gL63_2 : jGet L63 2 = some (.int (i32 (kp))) := eL63 ▸ jg_ne (by decide) gL44_2 rfl
            have gL63_3 : jGet L63 3 = some (.int (i32 (0))) := eL63 ▸ jg_ne (by decide) gL44_3 rfl
            have gL63_4 : jGet L63 4 = some (.int (i32 (G 12))) := eL63 ▸ jg_ne (by decide) gL44_4 rfl
            have gL63_5 : jGet L63 5 = some (.int (i32 (r47))) := eL63 ▸ jg_eq
            refine jx_ld (pc' := 76) (l' := L63) (st' := [.ref 66]) rfl (jl_aloadn gL63_0) ?_
            refine jx_vr (pc' := 79) (as := []) (st := []) rfl rfl rfl rfl ⟨rfl, rfl, Nat.le_of_ble_eq_true rfl⟩ rfl rfl (c_bad (dd := d) (hd := by omega) (hW := hW49)  (fk := fk2_48) (e_fk := show G45 16 = fk2_48 from (e52))    ) (fun o V' hq => ?_)
            obtain ⟨r64, rfl, rfl, b65, q66⟩ := hq
            refine .inr ⟨_, rfl, ?_⟩
            rcases q66 with ⟨rfl, a67⟩ | ⟨rfl, a68⟩
            · have _q : True := trivial
              refine jx_if_eq (pc' := 82) (tg := 84) rfl rfl rfl (by decide) (by decide) (fun h69 => ?_) (fun h69 => ?_)
              · have _q := h69
                exact absurd h69 (by omega)
              · have _q := h69
                refine jx_ar (pc' := 83) (st' := [.int (i32 (0))]) rfl rfl rfl rfl ?_
                refine jx_rt (v := some (.int (i32 (0)))) rfl rfl rfl rfl rfl rfl ?_
                have z70 := tz_f (tk0)
                exact ⟨_, _, _, at0, fk2_48, op0, nd, tk0, ec, rfl, rfl, hW49, hF54, hP55, by omega, ((hF50.1 10 rfl).trans (e_at0)), (e52), ((hF50.1 15 rfl).trans (e_op0)), ((hF50.1 31 rfl).trans (e_nd)), ((hF50.1 11 rfl).trans (e_tk0)), ec56, by omega, by omega, by omega, by omega, by omega, by omega, by first | exact Or.inl (⟨by omega, by omega, by omega⟩)⟩
            · have _q : True := trivial
              exfalso
              omega
          · have _q : True := trivial
            refine jx_ld (pc' := 75) (l' := jSto1 L44 5 (.int (i32 (r47)))) (st' := []) rfl rfl ?_
            obtain ⟨L71, eL71⟩ : ∃ q, q = jSto1 L44 5 (.int (i32 (r47))) := ⟨_, rfl⟩
            rw [← eL71]
            have gL71_0 : jGet L71 0 = some (.ref 66) := eL71 ▸ jg_ne (by decide) gL44_0 rfl
            have gL71_1 : jGet L71 1 = some (.int (i32 (pa))) := eL71 ▸ jg_ne (by decide) gL44_1 rfl
            have gL71_2 : jGet L71 2 = some (.int (i32 (kp))) := eL71 ▸ jg_ne (by decide) gL44_2 rfl
            have gL71_3 : jGet L71 3 = some (.int (i32 (0))) := eL71 ▸ jg_ne (by decide) gL44_3 rfl
            have gL71_4 : jGet L71 4 = some (.int (i32 (G 12))) := eL71 ▸ jg_ne (by decide) gL44_4 rfl
            have gL71_5 : jGet L71 5 = some (.int (i32 (r47))) := eL71 ▸ jg_eq
            refine jx_ld (pc' := 76) (l' := L71) (st' := [.ref 66]) rfl (jl_aloadn gL71_0) ?_
            refine jx_vr (pc' := 79) (as := []) (st := []) rfl rfl rfl rfl ⟨rfl, rfl, Nat.le_of_ble_eq_true rfl⟩ rfl rfl (c_bad (dd := d) (hd := by omega) (hW := hW49)  (fk := fk2_48) (e_fk := show G45 16 = fk2_48 from (e52))    ) (fun o V' hq => ?_)
            obtain ⟨r72, rfl, rfl, b73, q74⟩ := hq
            refine .inr ⟨_, rfl, ?_⟩
            rcases q74 with ⟨rfl, a75⟩ | ⟨rfl, a76⟩
            · have _q : True := trivial
              exfalso
              omega
            · have _q : True := trivial
              refine jx_if_eq (pc' := 82) (tg := 84) rfl rfl rfl (by decide) (by decide) (fun h77 => ?_) (fun h77 => ?_)
              · have _q := h77
                refine jx_ld (pc' := 85) (l' := L71) (st' := [.int (i32 (kp))]) rfl (jl_iloadn gL71_2) ?_
                refine jx_ar (pc' := 87) (st' := [.int (i32 (7)), .int (i32 (kp))]) rfl rfl rfl rfl ?_
                refine jx_icmp_ne (pc' := 90) (tg := 128) rfl rfl rfl (Int.le_trans (by decide : (-2147483648 : Int) ≤ 0) b_kp.1) (Int.le_trans b_kp.2 (by decide : (14 : Int) ≤ 2147483647)) (by decide) (by decide) (fun h78 => ?_) (fun h78 => ?_)
                · have _q := h78
                  refine jx_ld (pc' := 129) (l' := L71) (st' := [.ref 66]) rfl (jl_aloadn gL71_0) ?_
                  refine jx_vr (pc' := 132) (as := []) (st := []) rfl rfl rfl rfl ⟨rfl, rfl, Nat.le_of_ble_eq_true rfl⟩ rfl rfl (c_next (dd := d) (hd := by omega) (hW := hW49)  (ln := ln) (e_ln := show G45 9 = ln from ((hF50.1 9 rfl).trans (e_ln))) (le := le) (e_le := show A46 4 (ln).toNat = le from (congrFun (hF50.2 4 rfl) _).trans (e_le)) (at0 := at0) (e_at0 := show G45 10 = at0 from ((hF50.1 10 rfl).trans (e_at0)))    (p_0 := by omega)) (fun o V' hq => ?_)
                  obtain ⟨G79, A80, at2_81, tk2_82, rfl, rfl, hW83, hF84, e85, e86, p87, p88, p89, -⟩ := hq
                  have hF91 := Fr_tr hF54 hF84 (Fr_sub (by decide)) (Fr_sub (by decide))
                  have hP92 := Pf_f hP55 hF84 (by decide)
                  have ec93 : ecn A80 (G79 31) = ec := (ecn_f (hF84.2 15 rfl) (hF84.1 31 rfl)).trans ec56
                  have bat2_81 : (0 : Int) ≤ at2_81 ∧ at2_81 ≤ 3002 := e85 ▸ hW83.1 10
                  have ztk2_82 := tz_b tk2_82
                  have btk2_82 : (0 : Int) ≤ tk2_82 ∧ tk2_82 ≤ 5 := e86 ▸ hW83.1 11
                  refine .inl ⟨rfl, ?_⟩
                  have pz94 : at0 + tz tk2_82 ≤ at2_81 := by omega
                  refine jx_ld (pc' := 133) (l' := L71) (st' := [.int (i32 (kp))]) rfl (jl_iloadn gL71_2) ?_
                  refine jx_ar (pc' := 135) (st' := [.int (i32 (7)), .int (i32 (kp))]) rfl rfl rfl rfl ?_
                  refine jx_icmp_ne (pc' := 138) (tg := 152) rfl rfl rfl (Int.le_trans (by decide : (-2147483648 : Int) ≤ 0) b_kp.1) (Int.le_trans b_kp.2 (by decide : (14 : Int) ≤ 2147483647)) (by decide) (by decide) (fun h95 => ?_) (fun h95 => ?_)
                  · have _q := h95
                    refine jx_ld (pc' := 153) (l' := L71) (st' := [.ref 66]) rfl (jl_aloadn gL71_0) ?_
                    refine jx_ld (pc' := 155) (l' := L71) (st' := [.int (i32 (r47)), .ref 66]) rfl (jl_iload gL71_5) ?_
                    refine jx_ld (pc' := 157) (l' := L71) (st' := [.int (i32 (G 12)), .int (i32 (r47)), .ref 66]) rfl (jl_iload gL71_4) ?_
                    refine jx_ld (pc' := 158) (l' := L71) (st' := [.int (i32 (kp)), .int (i32 (G 12)), .int (i32 (r47)), .ref 66]) rfl (jl_iloadn gL71_2) ?_
                    refine jx_ar (pc' := 160) (st' := [.int (i32 (8)), .int (i32 (kp)), .int (i32 (G 12)), .int (i32 (r47)), .ref 66]) rfl rfl rfl rfl ?_
                    refine jx_icmp_ne (pc' := 163) (tg := 167) rfl rfl rfl (Int.le_trans (by decide : (-2147483648 : Int) ≤ 0) b_kp.1) (Int.le_trans b_kp.2 (by decide : (14 : Int) ≤ 2147483647)) (by decide) (by decide) (fun h96 => ?_) (fun h96 => ?_)
                    · have _q := h96
                      refine jx_ar (pc' := 168) (st' := [.int (i32 (0)), .int (i32 (G 12)), .int (i32 (r47)), .ref 66]) rfl rfl rfl rfl ?_
                      refine jx_vr (pc' := 171) (as := [.int (i32 (r47)), .int (i32 (G 12)), .int (i32 (0))]) (st := []) rfl rfl rfl rfl ⟨rfl, rfl, Nat.le_of_ble_eq_true rfl⟩ rfl rfl (c_readBehind_w (dd := d) (hd := by omega) (hW := hW83) (s := r47) (place := G 12) (ch := 0) (ln := ln) (e_ln := show G79 9 = ln from ((hF84.1 9 rfl).trans ((hF50.1 9 rfl).trans (e_ln)))) (le := le) (e_le := show A80 4 (ln).toNat = le from (congrFun ((hF84.2 4 rfl).trans (hF50.2 4 rfl)) _).trans (e_le)) (at0 := at2_81) (e_at0 := show G79 10 = at2_81 from (e85)) (fk := fk2_48) (e_fk := show G79 16 = fk2_48 from ((hF84.1 16 rfl).trans (e52))) (op0 := op0) (e_op0 := show G79 15 = op0 from ((hF84.1 15 rfl).trans ((hF50.1 15 rfl).trans (e_op0)))) (nd := nd) (e_nd := show G79 31 = nd from ((hF84.1 31 rfl).trans ((hF50.1 31 rfl).trans (e_nd)))) (tk0 := tk2_82) (e_tk0 := show G79 11 = tk2_82 from (e86)) (ec := ec) (e_ec := show ecn A80 (G79 31) = ec from ec93) (i_SV := (SV_ext (((hF84.1 29 rfl).trans (hF50.1 29 rfl))) (((hF84.2 14 rfl).trans (hF50.2 14 rfl))) i_SV)) (h_s := ⟨(Int.le_trans (by decide : (-2147483648 : Int) ≤ -2147483648) b51.1), (Int.le_trans b51.2 (by decide : (2147483647 : Int) ≤ 2147483647))⟩) (h_place := ⟨(Int.le_trans (by decide : (-2147483648 : Int) ≤ -3000) b43.1), (Int.le_trans b43.2 (by decide : (3002 : Int) ≤ 2147483647))⟩) (h_ch := ⟨(by decide), (by decide)⟩)  (p_0 := by omega) (p_1 := by omega) (p_2 := by omega) (p_3 := by omega) (p_4 := by omega) (p_5 := by omega) (p_6 := by omega) (p_7 := by omega) (p_8 := by omega) (p_9 := a62)) (fun o V' hq => ?_)
                      obtain ⟨G97, A98, r99, at2_100, fk2_101, op2_102, nd2_103, tk2_104, ec2_105, rfl, rfl, hW106, hF107, hQ108, b109, e110, e111, e112, e113, e114, e115, p116, p117, p118, p119, p120, p121, q122⟩ := hq
                      have hF123 := Fr_tr hF91 hF107 (Fr_sub (by decide)) (Fr_sub (by decide))
                      have hP124 := Pf_tr hP92 hQ108 (by omega)
                      have bat2_100 : (0 : Int) ≤ at2_100 ∧ at2_100 ≤ 3002 := e110 ▸ hW106.1 10
                      have bfk2_101 : (0 : Int) ≤ fk2_101 ∧ fk2_101 ≤ 6 := e111 ▸ hW106.1 16
                      have bop2_102 : (-2147483648 : Int) ≤ op2_102 ∧ op2_102 ≤ 2147483647 := e112 ▸ hW106.1 15
                      have bnd2_103 : (0 : Int) ≤ nd2_103 ∧ nd2_103 ≤ 6999 := e113 ▸ hW106.1 31
                      have ztk2_104 := tz_b tk2_104
                      have btk2_104 : (0 : Int) ≤ tk2_104 ∧ tk2_104 ≤ 5 := e114 ▸ hW106.1 11
                      refine .inr ⟨_, rfl, ?_⟩
                      rcases q122 with ⟨a125, a126, a127⟩ | ⟨a128, a129, a130, a131, a132⟩
                      · have _q : True := trivial
                        refine jx_ld (pc' := 172) (l' := jSto1 L71 3 (.int (i32 (r99)))) (st' := []) rfl rfl ?_
                        obtain ⟨L133, eL133⟩ : ∃ q, q = jSto1 L71 3 (.int (i32 (r99))) := ⟨_, rfl⟩
                        rw [← eL133]
                        have gL133_0 : jGet L133 0 = some (.ref 66) := eL133 ▸ jg_ne (by decide) gL71_0 rfl
                        have gL133_1 : jGet L133 1 = some (.int (i32 (pa))) := eL133 ▸ jg_ne (by decide) gL71_1 rfl
                        have gL133_2 : jGet L133 2 = some (.int (i32 (kp))) := eL133 ▸ jg_ne (by decide) gL71_2 rfl
                        have gL133_4 : jGet L133 4 = some (.int (i32 (G 12))) := eL133 ▸ jg_ne (by decide) gL71_4 rfl
                        have gL133_5 : jGet L133 5 = some (.int (i32 (r47))) := eL133 ▸ jg_ne (by decide) gL71_5 rfl
                        have gL133_3 : jGet L133 3 = some (.int (i32 (r99))) := eL133 ▸ jg_eq
                        refine jx_ld (pc' := 173) (l' := L133) (st' := [.ref 66]) rfl (jl_aloadn gL133_0) ?_
                        refine jx_ar (pc' := 175) (st' := [.int (i32 (7)), .ref 66]) rfl rfl rfl rfl ?_
                        refine jx_ld (pc' := 176) (l' := L133) (st' := [.int (i32 (r99)), .int (i32 (7)), .ref 66]) rfl (jl_iloadn gL133_3) ?_
                        refine jx_ld (pc' := 177) (l' := L133) (st' := [.int (i32 (pa)), .int (i32 (r99)), .int (i32 (7)), .ref 66]) rfl (jl_iloadn gL133_1) ?_
                        refine jx_ar (pc' := 178) (st' := [.int (i32 (0)), .int (i32 (pa)), .int (i32 (r99)), .int (i32 (7)), .ref 66]) rfl rfl rfl rfl ?_
                        refine jx_ar (pc' := 179) (st' := [.int (i32 (0)), .int (i32 (0)), .int (i32 (pa)), .int (i32 (r99)), .int (i32 (7)), .ref 66]) rfl rfl rfl rfl ?_
                        refine jx_vr (pc' := 182) (as := [.int (i32 (7)), .int (i32 (r99)), .int (i32 (pa)), .int (i32 (0)), .int (i32 (0))]) (st := []) rfl rfl rfl rfl ⟨rfl, rfl, Nat.le_of_ble_eq_true rfl⟩ rfl rfl (c_node_o (dd := d) (hd := by omega) (hW := hW106) (kind := 7) (a := r99) (b := pa) (c := 0) (e := 0) (nd := nd2_103) (e_nd := show G97 31 = nd2_103 from (e113)) (ec := ec2_105) (e_ec := show ecn A98 (G97 31) = ec2_105 from e115)  (h_kind := ⟨(by decide), (by decide)⟩) (h_a := ⟨(Int.le_trans (by decide : (-2147483648 : Int) ≤ -2147483648) b109.1), (Int.le_trans b109.2 (by decide : (2147483647 : Int) ≤ 2147483647))⟩) (h_b := ⟨(Int.le_trans (by decide : (-2147483648 : Int) ≤ -2147483648) h_pa.1), (Int.le_trans h_pa.2 (by decide : (2147483647 : Int) ≤ 2147483647))⟩) (h_c := ⟨(by decide), (by decide)⟩) (h_e := ⟨(by decide), (by decide)⟩)  (p_0 := by omega) (p_1 := by omega) (p_2 := by omega)) (fun o V' hq => ?_)
                        obtain ⟨G134, A135, nd2_136, ec2_137, rfl, rfl, hW138, hF139, hQ140, e141, e142, p143, p144, p145, -⟩ := hq
                        have hF147 := Fr_tr hF123 hF139 (Fr_sub (by decide)) (Fr_sub (by decide))
                        have hP148 := Pf_tr hP124 hQ140 (by omega)
                        have bnd2_136 : (0 : Int) ≤ nd2_136 ∧ nd2_136 ≤ 6999 := e141 ▸ hW138.1 31
                        refine .inr ⟨_, rfl, ?_⟩
                        refine jx_rt (v := some (.int (i32 (nd2_103)))) rfl rfl rfl rfl rfl rfl ?_
                        have z149 := tz_f (tk2_104)
                        exact ⟨_, _, _, at2_100, fk2_101, op2_102, nd2_136, tk2_104, ec2_137, rfl, rfl, hW138, hF147, hP148, by omega, ((hF139.1 10 rfl).trans (e110)), ((hF139.1 16 rfl).trans (e111)), ((hF139.1 15 rfl).trans (e112)), (e141), ((hF139.1 11 rfl).trans (e114)), e142, by omega, by omega, by omega, by omega, by omega, by omega, by first | exact Or.inl (⟨by omega, by omega, by omega⟩)⟩
                      · have _q : True := trivial
                        refine jx_ld (pc' := 172) (l' := jSto1 L71 3 (.int (i32 (r99)))) (st' := []) rfl rfl ?_
                        obtain ⟨L150, eL150⟩ : ∃ q, q = jSto1 L71 3 (.int (i32 (r99))) := ⟨_, rfl⟩
                        rw [← eL150]
                        have gL150_0 : jGet L150 0 = some (.ref 66) := eL150 ▸ jg_ne (by decide) gL71_0 rfl
                        have gL150_1 : jGet L150 1 = some (.int (i32 (pa))) := eL150 ▸ jg_ne (by decide) gL71_1 rfl
                        have gL150_2 : jGet L150 2 = some (.int (i32 (kp))) := eL150 ▸ jg_ne (by decide) gL71_2 rfl
                        have gL150_4 : jGet L150 4 = some (.int (i32 (G 12))) := eL150 ▸ jg_ne (by decide) gL71_4 rfl
                        have gL150_5 : jGet L150 5 = some (.int (i32 (r47))) := eL150 ▸ jg_ne (by decide) gL71_5 rfl
                        have gL150_3 : jGet L150 3 = some (.int (i32 (r99))) := eL150 ▸ jg_eq
                        refine jx_ld (pc' := 173) (l' := L150) (st' := [.ref 66]) rfl (jl_aloadn gL150_0) ?_
                        refine jx_ar (pc' := 175) (st' := [.int (i32 (7)), .ref 66]) rfl rfl rfl rfl ?_
                        refine jx_ld (pc' := 176) (l' := L150) (st' := [.int (i32 (r99)), .int (i32 (7)), .ref 66]) rfl (jl_iloadn gL150_3) ?_
                        refine jx_ld (pc' := 177) (l' := L150) (st' := [.int (i32 (pa)), .int (i32 (r99)), .int (i32 (7)), .ref 66]) rfl (jl_iloadn gL150_1) ?_
                        refine jx_ar (pc' := 178) (st' := [.int (i32 (0)), .int (i32 (pa)), .int (i32 (r99)), .int (i32 (7)), .ref 66]) rfl rfl rfl rfl ?_
                        refine jx_ar (pc' := 179) (st' := [.int (i32 (0)), .int (i32 (0)), .int (i32 (pa)), .int (i32 (r99)), .int (i32 (7)), .ref 66]) rfl rfl rfl rfl ?_
                        refine jx_vr (pc' := 182) (as := [.int (i32 (7)), .int (i32 (r99)), .int (i32 (pa)), .int (i32 (0)), .int (i32 (0))]) (st := []) rfl rfl rfl rfl ⟨rfl, rfl, Nat.le_of_ble_eq_true rfl⟩ rfl rfl (c_node_o (dd := d) (hd := by omega) (hW := hW106) (kind := 7) (a := r99) (b := pa) (c := 0) (e := 0) (nd := nd2_103) (e_nd := show G97 31 = nd2_103 from (e113)) (ec := ec2_105) (e_ec := show ecn A98 (G97 31) = ec2_105 from e115)  (h_kind := ⟨(by decide), (by decide)⟩) (h_a := ⟨(Int.le_trans (by decide : (-2147483648 : Int) ≤ -2147483648) b109.1), (Int.le_trans b109.2 (by decide : (2147483647 : Int) ≤ 2147483647))⟩) (h_b := ⟨(Int.le_trans (by decide : (-2147483648 : Int) ≤ -2147483648) h_pa.1), (Int.le_trans h_pa.2 (by decide : (2147483647 : Int) ≤ 2147483647))⟩) (h_c := ⟨(by decide), (by decide)⟩) (h_e := ⟨(by decide), (by decide)⟩)  (p_0 := by omega) (p_1 := by omega) (p_2 := by omega)) (fun o V' hq => ?_)
                        obtain ⟨G151, A152, nd2_153, ec2_154, rfl, rfl, hW155, hF156, hQ157, e158, e159, p160, p161, p162, -⟩ := hq
                        have hF164 := Fr_tr hF123 hF156 (Fr_sub (by decide)) (Fr_sub (by decide))
                        have hP165 := Pf_tr hP124 hQ157 (by omega)
                        have sf166 : wR A152 Vs sb (20) (0) (r99) (nd) (nd2_103) := wR_ag (by omega) (Sg_fr hF156 (by decide)) (Ag_pf hQ157 (by omega)) a131
                        have bnd2_153 : (0 : Int) ≤ nd2_153 ∧ nd2_153 ≤ 6999 := e158 ▸ hW155.1 31
                        refine .inr ⟨_, rfl, ?_⟩
                        refine jx_rt (v := some (.int (i32 (nd2_103)))) rfl rfl rfl rfl rfl rfl ?_
                        have z167 := tz_f (tk2_104)
                        exact ⟨_, _, _, at2_100, fk2_101, op2_102, nd2_153, tk2_104, ec2_154, rfl, rfl, hW155, hF164, hP165, by omega, ((hF156.1 10 rfl).trans (e110)), ((hF156.1 16 rfl).trans (e111)), ((hF156.1 15 rfl).trans (e112)), (e158), ((hF156.1 11 rfl).trans (e114)), e159, by omega, by omega, by omega, by omega, by omega, by omega, by first | exact Or.inr ((⟨by omega, by omega, by omega, by omega, by omega, (wA_mk p162 (by omega) (by omega) (by omega) (by omega) (.inr (.inl ⟨((show A152 7 (pa).toNat = kp from (congrFun ((hF156.2 7 rfl).trans ((hF107.2 7 rfl).trans ((hF84.2 7 rfl).trans (hF50.2 7 rfl)))) _).trans (e_kp)).trans (by omega : kp = 6)), (wR_mono (by omega) (by omega) (by omega) sf166)⟩))), (NX_nd p162), by omega⟩))⟩
                    · have _q := h96
                      refine jx_ar (pc' := 164) (st' := [.int (i32 (1)), .int (i32 (G 12)), .int (i32 (r47)), .ref 66]) rfl rfl rfl rfl ?_
                      refine jx_go (tg := 168) rfl rfl ?_
                      refine jx_vr (pc' := 171) (as := [.int (i32 (r47)), .int (i32 (G 12)), .int (i32 (1))]) (st := []) rfl rfl rfl rfl ⟨rfl, rfl, Nat.le_of_ble_eq_true rfl⟩ rfl rfl (c_readBehind_w (dd := d) (hd := by omega) (hW := hW83) (s := r47) (place := G 12) (ch := 1) (ln := ln) (e_ln := show G79 9 = ln from ((hF84.1 9 rfl).trans ((hF50.1 9 rfl).trans (e_ln)))) (le := le) (e_le := show A80 4 (ln).toNat = le from (congrFun ((hF84.2 4 rfl).trans (hF50.2 4 rfl)) _).trans (e_le)) (at0 := at2_81) (e_at0 := show G79 10 = at2_81 from (e85)) (fk := fk2_48) (e_fk := show G79 16 = fk2_48 from ((hF84.1 16 rfl).trans (e52))) (op0 := op0) (e_op0 := show G79 15 = op0 from ((hF84.1 15 rfl).trans ((hF50.1 15 rfl).trans (e_op0)))) (nd := nd) (e_nd := show G79 31 = nd from ((hF84.1 31 rfl).trans ((hF50.1 31 rfl).trans (e_nd)))) (tk0 := tk2_82) (e_tk0 := show G79 11 = tk2_82 from (e86)) (ec := ec) (e_ec := show ecn A80 (G79 31) = ec from ec93) (i_SV := (SV_ext (((hF84.1 29 rfl).trans (hF50.1 29 rfl))) (((hF84.2 14 rfl).trans (hF50.2 14 rfl))) i_SV)) (h_s := ⟨(Int.le_trans (by decide : (-2147483648 : Int) ≤ -2147483648) b51.1), (Int.le_trans b51.2 (by decide : (2147483647 : Int) ≤ 2147483647))⟩) (h_place := ⟨(Int.le_trans (by decide : (-2147483648 : Int) ≤ -3000) b43.1), (Int.le_trans b43.2 (by decide : (3002 : Int) ≤ 2147483647))⟩) (h_ch := ⟨(by decide), (by decide)⟩)  (p_0 := by omega) (p_1 := by omega) (p_2 := by omega) (p_3 := by omega) (p_4 := by omega) (p_5 := by omega) (p_6 := by omega) (p_7 := by omega) (p_8 := by omega) (p_9 := a62)) (fun o V' hq => ?_)
                      obtain ⟨G168, A169, r170, at2_171, fk2_172, op2_173, nd2_174, tk2_175, ec2_176, rfl, rfl, hW177, hF178, hQ179, b180, e181, e182, e183, e184, e185, e186, p187, p188, p189, p190, p191, p192, q193⟩ := hq
                      have hF194 := Fr_tr hF91 hF178 (Fr_sub (by decide)) (Fr_sub (by decide))
                      have hP195 := Pf_tr hP92 hQ179 (by omega)
                      have bat2_171 : (0 : Int) ≤ at2_171 ∧ at2_171 ≤ 3002 := e181 ▸ hW177.1 10
                      have bfk2_172 : (0 : Int) ≤ fk2_172 ∧ fk2_172 ≤ 6 := e182 ▸ hW177.1 16
                      have bop2_173 : (-2147483648 : Int) ≤ op2_173 ∧ op2_173 ≤ 2147483647 := e183 ▸ hW177.1 15
                      have bnd2_174 : (0 : Int) ≤ nd2_174 ∧ nd2_174 ≤ 6999 := e184 ▸ hW177.1 31
                      have ztk2_175 := tz_b tk2_175
                      have btk2_175 : (0 : Int) ≤ tk2_175 ∧ tk2_175 ≤ 5 := e185 ▸ hW177.1 11
                      refine .inr ⟨_, rfl, ?_⟩
                      rcases q193 with ⟨a196, a197, a198⟩ | ⟨a199, a200, a201, a202, a203⟩
                      · have _q : True := trivial
                        refine jx_ld (pc' := 172) (l' := jSto1 L71 3 (.int (i32 (r170)))) (st' := []) rfl rfl ?_
                        obtain ⟨L204, eL204⟩ : ∃ q, q = jSto1 L71 3 (.int (i32 (r170))) := ⟨_, rfl⟩
                        rw [← eL204]
                        have gL204_0 : jGet L204 0 = some (.ref 66) := eL204 ▸ jg_ne (by decide) gL71_0 rfl
                        have gL204_1 : jGet L204 1 = some (.int (i32 (pa))) := eL204 ▸ jg_ne (by decide) gL71_1 rfl
                        have gL204_2 : jGet L204 2 = some (.int (i32 (kp))) := eL204 ▸ jg_ne (by decide) gL71_2 rfl
                        have gL204_4 : jGet L204 4 = some (.int (i32 (G 12))) := eL204 ▸ jg_ne (by decide) gL71_4 rfl
                        have gL204_5 : jGet L204 5 = some (.int (i32 (r47))) := eL204 ▸ jg_ne (by decide) gL71_5 rfl
                        have gL204_3 : jGet L204 3 = some (.int (i32 (r170))) := eL204 ▸ jg_eq
                        refine jx_ld (pc' := 173) (l' := L204) (st' := [.ref 66]) rfl (jl_aloadn gL204_0) ?_
                        refine jx_ar (pc' := 175) (st' := [.int (i32 (7)), .ref 66]) rfl rfl rfl rfl ?_
                        refine jx_ld (pc' := 176) (l' := L204) (st' := [.int (i32 (r170)), .int (i32 (7)), .ref 66]) rfl (jl_iloadn gL204_3) ?_
                        refine jx_ld (pc' := 177) (l' := L204) (st' := [.int (i32 (pa)), .int (i32 (r170)), .int (i32 (7)), .ref 66]) rfl (jl_iloadn gL204_1) ?_
                        refine jx_ar (pc' := 178) (st' := [.int (i32 (0)), .int (i32 (pa)), .int (i32 (r170)), .int (i32 (7)), .ref 66]) rfl rfl rfl rfl ?_
                        refine jx_ar (pc' := 179) (st' := [.int (i32 (0)), .int (i32 (0)), .int (i32 (pa)), .int (i32 (r170)), .int (i32 (7)), .ref 66]) rfl rfl rfl rfl ?_
                        refine jx_vr (pc' := 182) (as := [.int (i32 (7)), .int (i32 (r170)), .int (i32 (pa)), .int (i32 (0)), .int (i32 (0))]) (st := []) rfl rfl rfl rfl ⟨rfl, rfl, Nat.le_of_ble_eq_true rfl⟩ rfl rfl (c_node_o (dd := d) (hd := by omega) (hW := hW177) (kind := 7) (a := r170) (b := pa) (c := 0) (e := 0) (nd := nd2_174) (e_nd := show G168 31 = nd2_174 from (e184)) (ec := ec2_176) (e_ec := show ecn A169 (G168 31) = ec2_176 from e186)  (h_kind := ⟨(by decide), (by decide)⟩) (h_a := ⟨(Int.le_trans (by decide : (-2147483648 : Int) ≤ -2147483648) b180.1), (Int.le_trans b180.2 (by decide : (2147483647 : Int) ≤ 2147483647))⟩) (h_b := ⟨(Int.le_trans (by decide : (-2147483648 : Int) ≤ -2147483648) h_pa.1), (Int.le_trans h_pa.2 (by decide : (2147483647 : Int) ≤ 2147483647))⟩) (h_c := ⟨(by decide), (by decide)⟩) (h_e := ⟨(by decide), (by decide)⟩)  (p_0 := by omega) (p_1 := by omega) (p_2 := by omega)) (fun o V' hq => ?_)
                        obtain ⟨G205, A206, nd2_207, ec2_208, rfl, rfl, hW209, hF210, hQ211, e212, e213, p214, p215, p216, -⟩ := hq
                        have hF218 := Fr_tr hF194 hF210 (Fr_sub (by decide)) (Fr_sub (by decide))
                        have hP219 := Pf_tr hP195 hQ211 (by omega)
                        have bnd2_207 : (0 : Int) ≤ nd2_207 ∧ nd2_207 ≤ 6999 := e212 ▸ hW209.1 31
                        refine .inr ⟨_, rfl, ?_⟩
                        refine jx_rt (v := some (.int (i32 (nd2_174)))) rfl rfl rfl rfl rfl rfl ?_
                        have z220 := tz_f (tk2_175)
                        exact ⟨_, _, _, at2_171, fk2_172, op2_173, nd2_207, tk2_175, ec2_208, rfl, rfl, hW209, hF218, hP219, by omega, ((hF210.1 10 rfl).trans (e181)), ((hF210.1 16 rfl).trans (e182)), ((hF210.1 15 rfl).trans (e183)), (e212), ((hF210.1 11 rfl).trans (e185)), e213, by omega, by omega, by omega, by omega, by omega, by omega, by first | exact Or.inl (⟨by omega, by omega, by omega⟩)⟩
                      · have _q : True := trivial
                        refine jx_ld (pc' := 172) (l' := jSto1 L71 3 (.int (i32 (r170)))) (st' := []) rfl rfl ?_
                        obtain ⟨L221, eL221⟩ : ∃ q, q = jSto1 L71 3 (.int (i32 (r170))) := ⟨_, rfl⟩
                        rw [← eL221]
                        have gL221_0 : jGet L221 0 = some (.ref 66) := eL221 ▸ jg_ne (by decide) gL71_0 rfl
                        have gL221_1 : jGet L221 1 = some (.int (i32 (pa))) := eL221 ▸ jg_ne (by decide) gL71_1 rfl
                        have gL221_2 : jGet L221 2 = some (.int (i32 (kp))) := eL221 ▸ jg_ne (by decide) gL71_2 rfl
                        have gL221_4 : jGet L221 4 = some (.int (i32 (G 12))) := eL221 ▸ jg_ne (by decide) gL71_4 rfl
                        have gL221_5 : jGet L221 5 = some (.int (i32 (r47))) := eL221 ▸ jg_ne (by decide) gL71_5 rfl
                        have gL221_3 : jGet L221 3 = some (.int (i32 (r170))) := eL221 ▸ jg_eq
                        refine jx_ld (pc' := 173) (l' := L221) (st' := [.ref 66]) rfl (jl_aloadn gL221_0) ?_
                        refine jx_ar (pc' := 175) (st' := [.int (i32 (7)), .ref 66]) rfl rfl rfl rfl ?_
                        refine jx_ld (pc' := 176) (l' := L221) (st' := [.int (i32 (r170)), .int (i32 (7)), .ref 66]) rfl (jl_iloadn gL221_3) ?_
                        refine jx_ld (pc' := 177) (l' := L221) (st' := [.int (i32 (pa)), .int (i32 (r170)), .int (i32 (7)), .ref 66]) rfl (jl_iloadn gL221_1) ?_
                        refine jx_ar (pc' := 178) (st' := [.int (i32 (0)), .int (i32 (pa)), .int (i32 (r170)), .int (i32 (7)), .ref 66]) rfl rfl rfl rfl ?_
                        refine jx_ar (pc' := 179) (st' := [.int (i32 (0)), .int (i32 (0)), .int (i32 (pa)), .int (i32 (r170)), .int (i32 (7)), .ref 66]) rfl rfl rfl rfl ?_
                        refine jx_vr (pc' := 182) (as := [.int (i32 (7)), .int (i32 (r170)), .int (i32 (pa)), .int (i32 (0)), .int (i32 (0))]) (st := []) rfl rfl rfl rfl ⟨rfl, rfl, Nat.le_of_ble_eq_true rfl⟩ rfl rfl (c_node_o (dd := d) (hd := by omega) (hW := hW177) (kind := 7) (a := r170) (b := pa) (c := 0) (e := 0) (nd := nd2_174) (e_nd := show G168 31 = nd2_174 from (e184)) (ec := ec2_176) (e_ec := show ecn A169 (G168 31) = ec2_176 from e186)  (h_kind := ⟨(by decide), (by decide)⟩) (h_a := ⟨(Int.le_trans (by decide : (-2147483648 : Int) ≤ -2147483648) b180.1), (Int.le_trans b180.2 (by decide : (2147483647 : Int) ≤ 2147483647))⟩) (h_b := ⟨(Int.le_trans (by decide : (-2147483648 : Int) ≤ -2147483648) h_pa.1), (Int.le_trans h_pa.2 (by decide : (2147483647 : Int) ≤ 2147483647))⟩) (h_c := ⟨(by decide), (by decide)⟩) (h_e := ⟨(by decide), (by decide)⟩)  (p_0 := by omega) (p_1 := by omega) (p_2 := by omega)) (fun o V' hq => ?_)
                        obtain ⟨G222, A223, nd2_224, ec2_225, rfl, rfl, hW226, hF227, hQ228, e229, e230, p231, p232, p233, -⟩ := hq
                        have hF235 := Fr_tr hF194 hF227 (Fr_sub (by decide)) (Fr_sub (by decide))
                        have hP236 := Pf_tr hP195 hQ228 (by omega)
                        have sf237 : wR A223 Vs sb (20) (1) (r170) (nd) (nd2_174) := wR_ag (by omega) (Sg_fr hF227 (by decide)) (Ag_pf hQ228 (by omega)) a202
                        have bnd2_224 : (0 : Int) ≤ nd2_224 ∧ nd2_224 ≤ 6999 := e229 ▸ hW226.1 31
                        refine .inr ⟨_, rfl, ?_⟩
                        refine jx_rt (v := some (.int (i32 (nd2_174)))) rfl rfl rfl rfl rfl rfl ?_
                        have z238 := tz_f (tk2_175)
                        exact ⟨_, _, _, at2_171, fk2_172, op2_173, nd2_224, tk2_175, ec2_225, rfl, rfl, hW226, hF235, hP236, by omega, ((hF227.1 10 rfl).trans (e181)), ((hF227.1 16 rfl).trans (e182)), ((hF227.1 15 rfl).trans (e183)), (e229), ((hF227.1 11 rfl).trans (e185)), e230, by omega, by omega, by omega, by omega, by omega, by omega, by first | exact Or.inr ((⟨by omega, by omega, by omega, by omega, by omega, (wA_mk p233 (by omega) (by omega) (by omega) (by omega) (.inr (.inr (.inl ⟨((show A223 7 (pa).toNat = kp from (congrFun ((hF227.2 7 rfl).trans ((hF178.2 7 rfl).trans ((hF84.2 7 rfl).trans (hF50.2 7 rfl)))) _).trans (e_kp)).trans (by omega : kp = 8)), (wR_mono (by omega) (by omega) (by omega) sf237)⟩)))), (NX_nd p233), by omega⟩))⟩
                  · have _q := h95
                    refine jx_ld (pc' := 139) (l' := L71) (st' := [.ref 66]) rfl (jl_aloadn gL71_0) ?_
                    refine jx_ar (pc' := 140) (st' := [.int (i32 (2)), .ref 66]) rfl rfl rfl rfl ?_
                    refine jx_ld (pc' := 142) (l' := L71) (st' := [.int (i32 (r47)), .int (i32 (2)), .ref 66]) rfl (jl_iload gL71_5) ?_
                    refine jx_ar (pc' := 143) (st' := [.int (i32 (0)), .int (i32 (r47)), .int (i32 (2)), .ref 66]) rfl rfl rfl rfl ?_
                    refine jx_ar (pc' := 144) (st' := [.int (i32 (0)), .int (i32 (0)), .int (i32 (r47)), .int (i32 (2)), .ref 66]) rfl rfl rfl rfl ?_
                    refine jx_ar (pc' := 145) (st' := [.int (i32 (0)), .int (i32 (0)), .int (i32 (0)), .int (i32 (r47)), .int (i32 (2)), .ref 66]) rfl rfl rfl rfl ?_
                    refine jx_vr (pc' := 148) (as := [.int (i32 (2)), .int (i32 (r47)), .int (i32 (0)), .int (i32 (0)), .int (i32 (0))]) (st := []) rfl rfl rfl rfl ⟨rfl, rfl, Nat.le_of_ble_eq_true rfl⟩ rfl rfl (c_node_o (dd := d) (hd := by omega) (hW := hW83) (kind := 2) (a := r47) (b := 0) (c := 0) (e := 0) (nd := nd) (e_nd := show G79 31 = nd from ((hF84.1 31 rfl).trans ((hF50.1 31 rfl).trans (e_nd)))) (ec := ec) (e_ec := show ecn A80 (G79 31) = ec from ec93)  (h_kind := ⟨(by decide), (by decide)⟩) (h_a := ⟨(Int.le_trans (by decide : (-2147483648 : Int) ≤ -2147483648) b51.1), (Int.le_trans b51.2 (by decide : (2147483647 : Int) ≤ 2147483647))⟩) (h_b := ⟨(by decide), (by decide)⟩) (h_c := ⟨(by decide), (by decide)⟩) (h_e := ⟨(by decide), (by decide)⟩)  (p_0 := by omega) (p_1 := by omega) (p_2 := by omega)) (fun o V' hq => ?_)
                    obtain ⟨G239, A240, nd2_241, ec2_242, rfl, rfl, hW243, hF244, hQ245, e246, e247, p248, p249, p250, -⟩ := hq
                    have hF252 := Fr_tr hF91 hF244 (Fr_sub (by decide)) (Fr_sub (by decide))
                    have hP253 := Pf_tr hP92 hQ245 (by omega)
                    have bnd2_241 : (0 : Int) ≤ nd2_241 ∧ nd2_241 ≤ 6999 := e246 ▸ hW243.1 31
                    refine .inr ⟨_, rfl, ?_⟩
                    refine jx_ld (pc' := 149) (l' := jSto1 L71 3 (.int (i32 (nd)))) (st' := []) rfl rfl ?_
                    obtain ⟨L254, eL254⟩ : ∃ q, q = jSto1 L71 3 (.int (i32 (nd))) := ⟨_, rfl⟩
                    rw [← eL254]
                    have gL254_0 : jGet L254 0 = some (.ref 66) := eL254 ▸ jg_ne (by decide) gL71_0 rfl
                    have gL254_1 : jGet L254 1 = some (.int (i32 (pa))) := eL254 ▸ jg_ne (by decide) gL71_1 rfl
                    have gL254_2 : jGet L254 2 = some (.int (i32 (kp))) := eL254 ▸ jg_ne (by decide) gL71_2 rfl
                    have gL254_4 : jGet L254 4 = some (.int (i32 (G 12))) := eL254 ▸ jg_ne (by decide) gL71_4 rfl
                    have gL254_5 : jGet L254 5 = some (.int (i32 (r47))) := eL254 ▸ jg_ne (by decide) gL71_5 rfl
                    have gL254_3 : jGet L254 3 = some (.int (i32 (nd))) := eL254 ▸ jg_eq
                    refine jx_go (tg := 172) rfl rfl ?_
                    refine jx_ld (pc' := 173) (l' := L254) (st' := [.ref 66]) rfl (jl_aloadn gL254_0) ?_
                    refine jx_ar (pc' := 175) (st' := [.int (i32 (7)), .ref 66]) rfl rfl rfl rfl ?_
                    refine jx_ld (pc' := 176) (l' := L254) (st' := [.int (i32 (nd)), .int (i32 (7)), .ref 66]) rfl (jl_iloadn gL254_3) ?_
                    refine jx_ld (pc' := 177) (l' := L254) (st' := [.int (i32 (pa)), .int (i32 (nd)), .int (i32 (7)), .ref 66]) rfl (jl_iloadn gL254_1) ?_
                    refine jx_ar (pc' := 178) (st' := [.int (i32 (0)), .int (i32 (pa)), .int (i32 (nd)), .int (i32 (7)), .ref 66]) rfl rfl rfl rfl ?_
                    refine jx_ar (pc' := 179) (st' := [.int (i32 (0)), .int (i32 (0)), .int (i32 (pa)), .int (i32 (nd)), .int (i32 (7)), .ref 66]) rfl rfl rfl rfl ?_
                    refine jx_vr (pc' := 182) (as := [.int (i32 (7)), .int (i32 (nd)), .int (i32 (pa)), .int (i32 (0)), .int (i32 (0))]) (st := []) rfl rfl rfl rfl ⟨rfl, rfl, Nat.le_of_ble_eq_true rfl⟩ rfl rfl (c_node_o (dd := d) (hd := by omega) (hW := hW243) (kind := 7) (a := nd) (b := pa) (c := 0) (e := 0) (nd := nd2_241) (e_nd := show G239 31 = nd2_241 from (e246)) (ec := ec2_242) (e_ec := show ecn A240 (G239 31) = ec2_242 from e247)  (h_kind := ⟨(by decide), (by decide)⟩) (h_a := ⟨(Int.le_trans (by decide : (-2147483648 : Int) ≤ 0) b_nd.1), (Int.le_trans b_nd.2 (by decide : (6999 : Int) ≤ 2147483647))⟩) (h_b := ⟨(Int.le_trans (by decide : (-2147483648 : Int) ≤ -2147483648) h_pa.1), (Int.le_trans h_pa.2 (by decide : (2147483647 : Int) ≤ 2147483647))⟩) (h_c := ⟨(by decide), (by decide)⟩) (h_e := ⟨(by decide), (by decide)⟩)  (p_0 := by omega) (p_1 := by omega) (p_2 := by omega)) (fun o V' hq => ?_)
                    obtain ⟨G255, A256, nd2_257, ec2_258, rfl, rfl, hW259, hF260, hQ261, e262, e263, p264, p265, p266, -⟩ := hq
                    have hF268 := Fr_tr hF252 hF260 (Fr_sub (by decide)) (Fr_sub (by decide))
                    have hP269 := Pf_tr hP253 hQ261 (by omega)
                    have sf270 : ND A256 (nd) (2) (r47) (0) (0) (0) (0) (0) := ND_ag (by omega) (Ag_pf hQ261 (by omega)) p250
                    have bnd2_257 : (0 : Int) ≤ nd2_257 ∧ nd2_257 ≤ 6999 := e262 ▸ hW259.1 31
                    refine .inr ⟨_, rfl, ?_⟩
                    refine jx_rt (v := some (.int (i32 (nd2_241)))) rfl rfl rfl rfl rfl rfl ?_
                    have z271 := tz_f (tk2_82)
                    exact ⟨_, _, _, at2_81, fk2_48, op0, nd2_257, tk2_82, ec2_258, rfl, rfl, hW259, hF268, hP269, by omega, ((hF260.1 10 rfl).trans ((hF244.1 10 rfl).trans (e85))), ((hF260.1 16 rfl).trans ((hF244.1 16 rfl).trans ((hF84.1 16 rfl).trans (e52)))), ((hF260.1 15 rfl).trans ((hF244.1 15 rfl).trans ((hF84.1 15 rfl).trans ((hF50.1 15 rfl).trans (e_op0))))), (e262), ((hF260.1 11 rfl).trans ((hF244.1 11 rfl).trans (e86))), e263, by omega, by omega, by omega, by omega, by omega, by omega, by first | exact Or.inr ((⟨by omega, by omega, by omega, by omega, by omega, (wA_mk p266 (by omega) (by omega) (by omega) (by omega) (.inr (.inr (.inr ⟨((show A256 7 (pa).toNat = kp from (congrFun ((hF260.2 7 rfl).trans ((hF244.2 7 rfl).trans ((hF84.2 7 rfl).trans (hF50.2 7 rfl)))) _).trans (e_kp)).trans (by omega : kp = 7)), wW_mk sf270 (by omega) (by omega) a62 (kq (P := kArr) (show A256 7 (r47).toNat = A 7 (r47).toNat from (congrFun ((hF260.2 7 rfl).trans ((hF244.2 7 rfl).trans ((hF84.2 7 rfl).trans (hF50.2 7 rfl)))) _)) (by unfold kArr; omega)) ((show A256 8 (r47).toNat = A 8 (r47).toNat from (congrFun ((hF260.2 8 rfl).trans ((hF244.2 8 rfl).trans ((hF84.2 8 rfl).trans (hF50.2 8 rfl)))) _)).trans ((by omega : A 8 (r47).toNat = zp).trans (show A256 8 (pa).toNat = zp from (congrFun ((hF260.2 8 rfl).trans ((hF244.2 8 rfl).trans ((hF84.2 8 rfl).trans (hF50.2 8 rfl)))) _).trans (e_zp)).symm))⟩)))), (NX_nd p266), by omega⟩))⟩
                · have _q := h78
                  refine jx_ld (pc' := 91) (l' := L71) (st' := [.ref 66]) rfl (jl_aloadn gL71_0) ?_
                  refine jr_get (pc' := 94) (i := 21) (v := .ref 74) rfl rfl (by decide) rfl rfl ?_
                  refine jx_ld (pc' := 96) (l' := L71) (st' := [.int (i32 (r47)), .ref 74]) rfl (jl_iload gL71_5) ?_
                  have b272 : (0 : Int) ≤ A 7 (r47).toNat ∧ A 7 (r47).toNat ≤ 14 := hW.2 7 _
                  refine jr_ldv (pc' := 97) (i := 7) (m := 260) (z := r47) (y := A 7 (r47).toNat) rfl (by decide) rfl (by decide) (by omega) (by omega) rfl (show A46 7 (r47).toNat = A 7 (r47).toNat from (congrFun (hF50.2 7 rfl) _)) ?_
                  refine jx_st (pc' := 100) (as := [.int (i32 (A 7 (r47).toNat))]) (st := []) rfl rfl ⟨rfl, Nat.le_of_ble_eq_true rfl⟩ rfl rfl rfl (c_isArray (dd := d) (hd := by omega) (k := A 7 (r47).toNat)   (h_k := ⟨(Int.le_trans (by decide : (-2147483648 : Int) ≤ 0) b272.1), (Int.le_trans b272.2 (by decide : (14 : Int) ≤ 2147483647))⟩)  ) (fun o V' hq => ?_)
                  obtain ⟨r273, rfl, rfl, b274, q275⟩ := hq
                  refine .inr ⟨_, rfl, ?_⟩
                  rcases q275 with ⟨rfl, a276⟩ | rfl
                  · have _q : True := trivial
                    refine jx_if_eq (pc' := 103) (tg := 119) rfl rfl rfl (by decide) (by decide) (fun h277 => ?_) (fun h277 => ?_)
                    · have _q := h277
                      exact absurd h277 (by omega)
                    · have _q := h277
                      refine jx_ld (pc' := 104) (l' := L71) (st' := [.ref 66]) rfl (jl_aloadn gL71_0) ?_
                      refine jr_get (pc' := 107) (i := 22) (v := .ref 75) rfl rfl (by decide) rfl rfl ?_
                      refine jx_ld (pc' := 109) (l' := L71) (st' := [.int (i32 (r47)), .ref 75]) rfl (jl_iload gL71_5) ?_
                      have b278 : (-2147483648 : Int) ≤ A 8 (r47).toNat ∧ A 8 (r47).toNat ≤ 2147483647 := hW.2 8 _
                      refine jr_ldv (pc' := 110) (i := 8) (m := 260) (z := r47) (y := A 8 (r47).toNat) rfl (by decide) rfl (by decide) (by omega) (by omega) rfl (show A46 8 (r47).toNat = A 8 (r47).toNat from (congrFun (hF50.2 8 rfl) _)) ?_
                      refine jx_ld (pc' := 111) (l' := L71) (st' := [.ref 66, .int (i32 (A 8 (r47).toNat))]) rfl (jl_aloadn gL71_0) ?_
                      refine jr_get (pc' := 114) (i := 22) (v := .ref 75) rfl rfl (by decide) rfl rfl ?_
                      refine jx_ld (pc' := 115) (l' := L71) (st' := [.int (i32 (pa)), .ref 75, .int (i32 (A 8 (r47).toNat))]) rfl (jl_iloadn gL71_1) ?_
                      refine jr_ldv (pc' := 116) (i := 8) (m := 260) (z := pa) (y := zp) rfl (by decide) rfl (by decide) (by omega) (by omega) rfl (show A46 8 (pa).toNat = zp from (congrFun (hF50.2 8 rfl) _).trans (e_zp)) ?_
                      refine jx_icmp_eq (pc' := 119) (tg := 128) rfl rfl rfl (Int.le_trans (by decide : (-2147483648 : Int) ≤ -2147483648) b278.1) (Int.le_trans b278.2 (by decide : (2147483647 : Int) ≤ 2147483647)) (Int.le_trans (by decide : (-2147483648 : Int) ≤ -2147483648) b_zp.1) (Int.le_trans b_zp.2 (by decide : (2147483647 : Int) ≤ 2147483647)) (fun h279 => ?_) (fun h279 => ?_)
                      · have _q := h279
                        refine jx_ld (pc' := 129) (l' := L71) (st' := [.ref 66]) rfl (jl_aloadn gL71_0) ?_
                        refine jx_vr (pc' := 132) (as := []) (st := []) rfl rfl rfl rfl ⟨rfl, rfl, Nat.le_of_ble_eq_true rfl⟩ rfl rfl (c_next (dd := d) (hd := by omega) (hW := hW49)  (ln := ln) (e_ln := show G45 9 = ln from ((hF50.1 9 rfl).trans (e_ln))) (le := le) (e_le := show A46 4 (ln).toNat = le from (congrFun (hF50.2 4 rfl) _).trans (e_le)) (at0 := at0) (e_at0 := show G45 10 = at0 from ((hF50.1 10 rfl).trans (e_at0)))    (p_0 := by omega)) (fun o V' hq => ?_)
                        obtain ⟨G280, A281, at2_282, tk2_283, rfl, rfl, hW284, hF285, e286, e287, p288, p289, p290, -⟩ := hq
                        have hF292 := Fr_tr hF54 hF285 (Fr_sub (by decide)) (Fr_sub (by decide))
                        have hP293 := Pf_f hP55 hF285 (by decide)
                        have ec294 : ecn A281 (G280 31) = ec := (ecn_f (hF285.2 15 rfl) (hF285.1 31 rfl)).trans ec56
                        have bat2_282 : (0 : Int) ≤ at2_282 ∧ at2_282 ≤ 3002 := e286 ▸ hW284.1 10
                        have ztk2_283 := tz_b tk2_283
                        have btk2_283 : (0 : Int) ≤ tk2_283 ∧ tk2_283 ≤ 5 := e287 ▸ hW284.1 11
                        refine .inl ⟨rfl, ?_⟩
                        have pz295 : at0 + tz tk2_283 ≤ at2_282 := by omega
                        refine jx_ld (pc' := 133) (l' := L71) (st' := [.int (i32 (kp))]) rfl (jl_iloadn gL71_2) ?_
                        refine jx_ar (pc' := 135) (st' := [.int (i32 (7)), .int (i32 (kp))]) rfl rfl rfl rfl ?_
                        refine jx_icmp_ne (pc' := 138) (tg := 152) rfl rfl rfl (Int.le_trans (by decide : (-2147483648 : Int) ≤ 0) b_kp.1) (Int.le_trans b_kp.2 (by decide : (14 : Int) ≤ 2147483647)) (by decide) (by decide) (fun h296 => ?_) (fun h296 => ?_)
                        · have _q := h296
                          refine jx_ld (pc' := 153) (l' := L71) (st' := [.ref 66]) rfl (jl_aloadn gL71_0) ?_
                          refine jx_ld (pc' := 155) (l' := L71) (st' := [.int (i32 (r47)), .ref 66]) rfl (jl_iload gL71_5) ?_
                          refine jx_ld (pc' := 157) (l' := L71) (st' := [.int (i32 (G 12)), .int (i32 (r47)), .ref 66]) rfl (jl_iload gL71_4) ?_
                          refine jx_ld (pc' := 158) (l' := L71) (st' := [.int (i32 (kp)), .int (i32 (G 12)), .int (i32 (r47)), .ref 66]) rfl (jl_iloadn gL71_2) ?_
                          refine jx_ar (pc' := 160) (st' := [.int (i32 (8)), .int (i32 (kp)), .int (i32 (G 12)), .int (i32 (r47)), .ref 66]) rfl rfl rfl rfl ?_
                          refine jx_icmp_ne (pc' := 163) (tg := 167) rfl rfl rfl (Int.le_trans (by decide : (-2147483648 : Int) ≤ 0) b_kp.1) (Int.le_trans b_kp.2 (by decide : (14 : Int) ≤ 2147483647)) (by decide) (by decide) (fun h297 => ?_) (fun h297 => ?_)
                          · have _q := h297
                            refine jx_ar (pc' := 168) (st' := [.int (i32 (0)), .int (i32 (G 12)), .int (i32 (r47)), .ref 66]) rfl rfl rfl rfl ?_
                            refine jx_vr (pc' := 171) (as := [.int (i32 (r47)), .int (i32 (G 12)), .int (i32 (0))]) (st := []) rfl rfl rfl rfl ⟨rfl, rfl, Nat.le_of_ble_eq_true rfl⟩ rfl rfl (c_readBehind_w (dd := d) (hd := by omega) (hW := hW284) (s := r47) (place := G 12) (ch := 0) (ln := ln) (e_ln := show G280 9 = ln from ((hF285.1 9 rfl).trans ((hF50.1 9 rfl).trans (e_ln)))) (le := le) (e_le := show A281 4 (ln).toNat = le from (congrFun ((hF285.2 4 rfl).trans (hF50.2 4 rfl)) _).trans (e_le)) (at0 := at2_282) (e_at0 := show G280 10 = at2_282 from (e286)) (fk := fk2_48) (e_fk := show G280 16 = fk2_48 from ((hF285.1 16 rfl).trans (e52))) (op0 := op0) (e_op0 := show G280 15 = op0 from ((hF285.1 15 rfl).trans ((hF50.1 15 rfl).trans (e_op0)))) (nd := nd) (e_nd := show G280 31 = nd from ((hF285.1 31 rfl).trans ((hF50.1 31 rfl).trans (e_nd)))) (tk0 := tk2_283) (e_tk0 := show G280 11 = tk2_283 from (e287)) (ec := ec) (e_ec := show ecn A281 (G280 31) = ec from ec294) (i_SV := (SV_ext (((hF285.1 29 rfl).trans (hF50.1 29 rfl))) (((hF285.2 14 rfl).trans (hF50.2 14 rfl))) i_SV)) (h_s := ⟨(Int.le_trans (by decide : (-2147483648 : Int) ≤ -2147483648) b51.1), (Int.le_trans b51.2 (by decide : (2147483647 : Int) ≤ 2147483647))⟩) (h_place := ⟨(Int.le_trans (by decide : (-2147483648 : Int) ≤ -3000) b43.1), (Int.le_trans b43.2 (by decide : (3002 : Int) ≤ 2147483647))⟩) (h_ch := ⟨(by decide), (by decide)⟩)  (p_0 := by omega) (p_1 := by omega) (p_2 := by omega) (p_3 := by omega) (p_4 := by omega) (p_5 := by omega) (p_6 := by omega) (p_7 := by omega) (p_8 := by omega) (p_9 := a62)) (fun o V' hq => ?_)
                            obtain ⟨G298, A299, r300, at2_301, fk2_302, op2_303, nd2_304, tk2_305, ec2_306, rfl, rfl, hW307, hF308, hQ309, b310, e311, e312, e313, e314, e315, e316, p317, p318, p319, p320, p321, p322, q323⟩ := hq
                            have hF324 := Fr_tr hF292 hF308 (Fr_sub (by decide)) (Fr_sub (by decide))
                            have hP325 := Pf_tr hP293 hQ309 (by omega)
                            have bat2_301 : (0 : Int) ≤ at2_301 ∧ at2_301 ≤ 3002 := e311 ▸ hW307.1 10
                            have bfk2_302 : (0 : Int) ≤ fk2_302 ∧ fk2_302 ≤ 6 := e312 ▸ hW307.1 16
                            have bop2_303 : (-2147483648 : Int) ≤ op2_303 ∧ op2_303 ≤ 2147483647 := e313 ▸ hW307.1 15
                            have bnd2_304 : (0 : Int) ≤ nd2_304 ∧ nd2_304 ≤ 6999 := e314 ▸ hW307.1 31
                            have ztk2_305 := tz_b tk2_305
                            have btk2_305 : (0 : Int) ≤ tk2_305 ∧ tk2_305 ≤ 5 := e315 ▸ hW307.1 11
                            refine .inr ⟨_, rfl, ?_⟩
                            rcases q323 with ⟨a326, a327, a328⟩ | ⟨a329, a330, a331, a332, a333⟩
                            · have _q : True := trivial
                              refine jx_ld (pc' := 172) (l' := jSto1 L71 3 (.int (i32 (r300)))) (st' := []) rfl rfl ?_
                              obtain ⟨L334, eL334⟩ : ∃ q, q = jSto1 L71 3 (.int (i32 (r300))) := ⟨_, rfl⟩
                              rw [← eL334]
                              have gL334_0 : jGet L334 0 = some (.ref 66) := eL334 ▸ jg_ne (by decide) gL71_0 rfl
                              have gL334_1 : jGet L334 1 = some (.int (i32 (pa))) := eL334 ▸ jg_ne (by decide) gL71_1 rfl
                              have gL334_2 : jGet L334 2 = some (.int (i32 (kp))) := eL334 ▸ jg_ne (by decide) gL71_2 rfl
                              have gL334_4 : jGet L334 4 = some (.int (i32 (G 12))) := eL334 ▸ jg_ne (by decide) gL71_4 rfl
                              have gL334_5 : jGet L334 5 = some (.int (i32 (r47))) := eL334 ▸ jg_ne (by decide) gL71_5 rfl
                              have gL334_3 : jGet L334 3 = some (.int (i32 (r300))) := eL334 ▸ jg_eq
                              refine jx_ld (pc' := 173) (l' := L334) (st' := [.ref 66]) rfl (jl_aloadn gL334_0) ?_
                              refine jx_ar (pc' := 175) (st' := [.int (i32 (7)), .ref 66]) rfl rfl rfl rfl ?_
                              refine jx_ld (pc' := 176) (l' := L334) (st' := [.int (i32 (r300)), .int (i32 (7)), .ref 66]) rfl (jl_iloadn gL334_3) ?_
                              refine jx_ld (pc' := 177) (l' := L334) (st' := [.int (i32 (pa)), .int (i32 (r300)), .int (i32 (7)), .ref 66]) rfl (jl_iloadn gL334_1) ?_
                              refine jx_ar (pc' := 178) (st' := [.int (i32 (0)), .int (i32 (pa)), .int (i32 (r300)), .int (i32 (7)), .ref 66]) rfl rfl rfl rfl ?_
                              refine jx_ar (pc' := 179) (st' := [.int (i32 (0)), .int (i32 (0)), .int (i32 (pa)), .int (i32 (r300)), .int (i32 (7)), .ref 66]) rfl rfl rfl rfl ?_
                              refine jx_vr (pc' := 182) (as := [.int (i32 (7)), .int (i32 (r300)), .int (i32 (pa)), .int (i32 (0)), .int (i32 (0))]) (st := []) rfl rfl rfl rfl ⟨rfl, rfl, Nat.le_of_ble_eq_true rfl⟩ rfl rfl (c_node_o (dd := d) (hd := by omega) (hW := hW307) (kind := 7) (a := r300) (b := pa) (c := 0) (e := 0) (nd := nd2_304) (e_nd := show G298 31 = nd2_304 from (e314)) (ec := ec2_306) (e_ec := show ecn A299 (G298 31) = ec2_306 from e316)  (h_kind := ⟨(by decide), (by decide)⟩) (h_a := ⟨(Int.le_trans (by decide : (-2147483648 : Int) ≤ -2147483648) b310.1), (Int.le_trans b310.2 (by decide : (2147483647 : Int) ≤ 2147483647))⟩) (h_b := ⟨(Int.le_trans (by decide : (-2147483648 : Int) ≤ -2147483648) h_pa.1), (Int.le_trans h_pa.2 (by decide : (2147483647 : Int) ≤ 2147483647))⟩) (h_c := ⟨(by decide), (by decide)⟩) (h_e := ⟨(by decide), (by decide)⟩)  (p_0 := by omega) (p_1 := by omega) (p_2 := by omega)) (fun o V' hq => ?_)
                              obtain ⟨G335, A336, nd2_337, ec2_338, rfl, rfl, hW339, hF340, hQ341, e342, e343, p344, p345, p346, -⟩ := hq
                              have hF348 := Fr_tr hF324 hF340 (Fr_sub (by decide)) (Fr_sub (by decide))
                              have hP349 := Pf_tr hP325 hQ341 (by omega)
                              have bnd2_337 : (0 : Int) ≤ nd2_337 ∧ nd2_337 ≤ 6999 := e342 ▸ hW339.1 31
                              refine .inr ⟨_, rfl, ?_⟩
                              refine jx_rt (v := some (.int (i32 (nd2_304)))) rfl rfl rfl rfl rfl rfl ?_
                              have z350 := tz_f (tk2_305)
                              exact ⟨_, _, _, at2_301, fk2_302, op2_303, nd2_337, tk2_305, ec2_338, rfl, rfl, hW339, hF348, hP349, by omega, ((hF340.1 10 rfl).trans (e311)), ((hF340.1 16 rfl).trans (e312)), ((hF340.1 15 rfl).trans (e313)), (e342), ((hF340.1 11 rfl).trans (e315)), e343, by omega, by omega, by omega, by omega, by omega, by omega, by first | exact Or.inl (⟨by omega, by omega, by omega⟩)⟩
                            · have _q : True := trivial
                              refine jx_ld (pc' := 172) (l' := jSto1 L71 3 (.int (i32 (r300)))) (st' := []) rfl rfl ?_
                              obtain ⟨L351, eL351⟩ : ∃ q, q = jSto1 L71 3 (.int (i32 (r300))) := ⟨_, rfl⟩
                              rw [← eL351]
                              have gL351_0 : jGet L351 0 = some (.ref 66) := eL351 ▸ jg_ne (by decide) gL71_0 rfl
                              have gL351_1 : jGet L351 1 = some (.int (i32 (pa))) := eL351 ▸ jg_ne (by decide) gL71_1 rfl
                              have gL351_2 : jGet L351 2 = some (.int (i32 (kp))) := eL351 ▸ jg_ne (by decide) gL71_2 rfl
                              have gL351_4 : jGet L351 4 = some (.int (i32 (G 12))) := eL351 ▸ jg_ne (by decide) gL71_4 rfl
                              have gL351_5 : jGet L351 5 = some (.int (i32 (r47))) := eL351 ▸ jg_ne (by decide) gL71_5 rfl
                              have gL351_3 : jGet L351 3 = some (.int (i32 (r300))) := eL351 ▸ jg_eq
                              refine jx_ld (pc' := 173) (l' := L351) (st' := [.ref 66]) rfl (jl_aloadn gL351_0) ?_
                              refine jx_ar (pc' := 175) (st' := [.int (i32 (7)), .ref 66]) rfl rfl rfl rfl ?_
                              refine jx_ld (pc' := 176) (l' := L351) (st' := [.int (i32 (r300)), .int (i32 (7)), .ref 66]) rfl (jl_iloadn gL351_3) ?_
                              refine jx_ld (pc' := 177) (l' := L351) (st' := [.int (i32 (pa)), .int (i32 (r300)), .int (i32 (7)), .ref 66]) rfl (jl_iloadn gL351_1) ?_
                              refine jx_ar (pc' := 178) (st' := [.int (i32 (0)), .int (i32 (pa)), .int (i32 (r300)), .int (i32 (7)), .ref 66]) rfl rfl rfl rfl ?_
                              refine jx_ar (pc' := 179) (st' := [.int (i32 (0)), .int (i32 (0)), .int (i32 (pa)), .int (i32 (r300)), .int (i32 (7)), .ref 66]) rfl rfl rfl rfl ?_
                              refine jx_vr (pc' := 182) (as := [.int (i32 (7)), .int (i32 (r300)), .int (i32 (pa)), .int (i32 (0)), .int (i32 (0))]) (st := []) rfl rfl rfl rfl ⟨rfl, rfl, Nat.le_of_ble_eq_true rfl⟩ rfl rfl (c_node_o (dd := d) (hd := by omega) (hW := hW307) (kind := 7) (a := r300) (b := pa) (c := 0) (e := 0) (nd := nd2_304) (e_nd := show G298 31 = nd2_304 from (e314)) (ec := ec2_306) (e_ec := show ecn A299 (G298 31) = ec2_306 from e316)  (h_kind := ⟨(by decide), (by decide)⟩) (h_a := ⟨(Int.le_trans (by decide : (-2147483648 : Int) ≤ -2147483648) b310.1), (Int.le_trans b310.2 (by decide : (2147483647 : Int) ≤ 2147483647))⟩) (h_b := ⟨(Int.le_trans (by decide : (-2147483648 : Int) ≤ -2147483648) h_pa.1), (Int.le_trans h_pa.2 (by decide : (2147483647 : Int) ≤ 2147483647))⟩) (h_c := ⟨(by decide), (by decide)⟩) (h_e := ⟨(by decide), (by decide)⟩)  (p_0 := by omega) (p_1 := by omega) (p_2 := by omega)) (fun o V' hq => ?_)
                              obtain ⟨G352, A353, nd2_354, ec2_355, rfl, rfl, hW356, hF357, hQ358, e359, e360, p361, p362, p363, -⟩ := hq
                              have hF365 := Fr_tr hF324 hF357 (Fr_sub (by decide)) (Fr_sub (by decide))
                              have hP366 := Pf_tr hP325 hQ358 (by omega)
                              have sf367 : wR A353 Vs sb (20) (0) (r300) (nd) (nd2_304) := wR_ag (by omega) (Sg_fr hF357 (by decide)) (Ag_pf hQ358 (by omega)) a332
                              have bnd2_354 : (0 : Int) ≤ nd2_354 ∧ nd2_354 ≤ 6999 := e359 ▸ hW356.1 31
                              refine .inr ⟨_, rfl, ?_⟩
                              refine jx_rt (v := some (.int (i32 (nd2_304)))) rfl rfl rfl rfl rfl rfl ?_
                              have z368 := tz_f (tk2_305)
                              exact ⟨_, _, _, at2_301, fk2_302, op2_303, nd2_354, tk2_305, ec2_355, rfl, rfl, hW356, hF365, hP366, by omega, ((hF357.1 10 rfl).trans (e311)), ((hF357.1 16 rfl).trans (e312)), ((hF357.1 15 rfl).trans (e313)), (e359), ((hF357.1 11 rfl).trans (e315)), e360, by omega, by omega, by omega, by omega, by omega, by omega, by first | exact Or.inr ((⟨by omega, by omega, by omega, by omega, by omega, (wA_mk p363 (by omega) (by omega) (by omega) (by omega) (.inr (.inl ⟨((show A353 7 (pa).toNat = kp from (congrFun ((hF357.2 7 rfl).trans ((hF308.2 7 rfl).trans ((hF285.2 7 rfl).trans (hF50.2 7 rfl)))) _).trans (e_kp)).trans (by omega : kp = 6)), (wR_mono (by omega) (by omega) (by omega) sf367)⟩))), (NX_nd p363), by omega⟩))⟩
                          · have _q := h297
                            refine jx_ar (pc' := 164) (st' := [.int (i32 (1)), .int (i32 (G 12)), .int (i32 (r47)), .ref 66]) rfl rfl rfl rfl ?_
                            refine jx_go (tg := 168) rfl rfl ?_
                            refine jx_vr (pc' := 171) (as := [.int (i32 (r47)), .int (i32 (G 12)), .int (i32 (1))]) (st := []) rfl rfl rfl rfl ⟨rfl, rfl, Nat.le_of_ble_eq_true rfl⟩ rfl rfl (c_readBehind_w (dd := d) (hd := by omega) (hW := hW284) (s := r47) (place := G 12) (ch := 1) (ln := ln) (e_ln := show G280 9 = ln from ((hF285.1 9 rfl).trans ((hF50.1 9 rfl).trans (e_ln)))) (le := le) (e_le := show A281 4 (ln).toNat = le from (congrFun ((hF285.2 4 rfl).trans (hF50.2 4 rfl)) _).trans (e_le)) (at0 := at2_282) (e_at0 := show G280 10 = at2_282 from (e286)) (fk := fk2_48) (e_fk := show G280 16 = fk2_48 from ((hF285.1 16 rfl).trans (e52))) (op0 := op0) (e_op0 := show G280 15 = op0 from ((hF285.1 15 rfl).trans ((hF50.1 15 rfl).trans (e_op0)))) (nd := nd) (e_nd := show G280 31 = nd from ((hF285.1 31 rfl).trans ((hF50.1 31 rfl).trans (e_nd)))) (tk0 := tk2_283) (e_tk0 := show G280 11 = tk2_283 from (e287)) (ec := ec) (e_ec := show ecn A281 (G280 31) = ec from ec294) (i_SV := (SV_ext (((hF285.1 29 rfl).trans (hF50.1 29 rfl))) (((hF285.2 14 rfl).trans (hF50.2 14 rfl))) i_SV)) (h_s := ⟨(Int.le_trans (by decide : (-2147483648 : Int) ≤ -2147483648) b51.1), (Int.le_trans b51.2 (by decide : (2147483647 : Int) ≤ 2147483647))⟩) (h_place := ⟨(Int.le_trans (by decide : (-2147483648 : Int) ≤ -3000) b43.1), (Int.le_trans b43.2 (by decide : (3002 : Int) ≤ 2147483647))⟩) (h_ch := ⟨(by decide), (by decide)⟩)  (p_0 := by omega) (p_1 := by omega) (p_2 := by omega) (p_3 := by omega) (p_4 := by omega) (p_5 := by omega) (p_6 := by omega) (p_7 := by omega) (p_8 := by omega) (p_9 := a62)) (fun o V' hq => ?_)
                            obtain ⟨G369, A370, r371, at2_372, fk2_373, op2_374, nd2_375, tk2_376, ec2_377, rfl, rfl, hW378, hF379, hQ380, b381, e382, e383, e384, e385, e386, e387, p388, p389, p390, p391, p392, p393, q394⟩ := hq
                            have hF395 := Fr_tr hF292 hF379 (Fr_sub (by decide)) (Fr_sub (by decide))
                            have hP396 := Pf_tr hP293 hQ380 (by omega)
                            have bat2_372 : (0 : Int) ≤ at2_372 ∧ at2_372 ≤ 3002 := e382 ▸ hW378.1 10
                            have bfk2_373 : (0 : Int) ≤ fk2_373 ∧ fk2_373 ≤ 6 := e383 ▸ hW378.1 16
                            have bop2_374 : (-2147483648 : Int) ≤ op2_374 ∧ op2_374 ≤ 2147483647 := e384 ▸ hW378.1 15
                            have bnd2_375 : (0 : Int) ≤ nd2_375 ∧ nd2_375 ≤ 6999 := e385 ▸ hW378.1 31
                            have ztk2_376 := tz_b tk2_376
                            have btk2_376 : (0 : Int) ≤ tk2_376 ∧ tk2_376 ≤ 5 := e386 ▸ hW378.1 11
                            refine .inr ⟨_, rfl, ?_⟩
                            rcases q394 with ⟨a397, a398, a399⟩ | ⟨a400, a401, a402, a403, a404⟩
                            · have _q : True := trivial
                              refine jx_ld (pc' := 172) (l' := jSto1 L71 3 (.int (i32 (r371)))) (st' := []) rfl rfl ?_
                              obtain ⟨L405, eL405⟩ : ∃ q, q = jSto1 L71 3 (.int (i32 (r371))) := ⟨_, rfl⟩
                              rw [← eL405]
                              have gL405_0 : jGet L405 0 = some (.ref 66) := eL405 ▸ jg_ne (by decide) gL71_0 rfl
                              have gL405_1 : jGet L405 1 = some (.int (i32 (pa))) := eL405 ▸ jg_ne (by decide) gL71_1 rfl
                              have gL405_2 : jGet L405 2 = some (.int (i32 (kp))) := eL405 ▸ jg_ne (by decide) gL71_2 rfl
                              have gL405_4 : jGet L405 4 = some (.int (i32 (G 12))) := eL405 ▸ jg_ne (by decide) gL71_4 rfl
                              have gL405_5 : jGet L405 5 = some (.int (i32 (r47))) := eL405 ▸ jg_ne (by decide) gL71_5 rfl
                              have gL405_3 : jGet L405 3 = some (.int (i32 (r371))) := eL405 ▸ jg_eq
                              refine jx_ld (pc' := 173) (l' := L405) (st' := [.ref 66]) rfl (jl_aloadn gL405_0) ?_
                              refine jx_ar (pc' := 175) (st' := [.int (i32 (7)), .ref 66]) rfl rfl rfl rfl ?_
                              refine jx_ld (pc' := 176) (l' := L405) (st' := [.int (i32 (r371)), .int (i32 (7)), .ref 66]) rfl (jl_iloadn gL405_3) ?_
                              refine jx_ld (pc' := 177) (l' := L405) (st' := [.int (i32 (pa)), .int (i32 (r371)), .int (i32 (7)), .ref 66]) rfl (jl_iloadn gL405_1) ?_
                              refine jx_ar (pc' := 178) (st' := [.int (i32 (0)), .int (i32 (pa)), .int (i32 (r371)), .int (i32 (7)), .ref 66]) rfl rfl rfl rfl ?_
                              refine jx_ar (pc' := 179) (st' := [.int (i32 (0)), .int (i32 (0)), .int (i32 (pa)), .int (i32 (r371)), .int (i32 (7)), .ref 66]) rfl rfl rfl rfl ?_
                              refine jx_vr (pc' := 182) (as := [.int (i32 (7)), .int (i32 (r371)), .int (i32 (pa)), .int (i32 (0)), .int (i32 (0))]) (st := []) rfl rfl rfl rfl ⟨rfl, rfl, Nat.le_of_ble_eq_true rfl⟩ rfl rfl (c_node_o (dd := d) (hd := by omega) (hW := hW378) (kind := 7) (a := r371) (b := pa) (c := 0) (e := 0) (nd := nd2_375) (e_nd := show G369 31 = nd2_375 from (e385)) (ec := ec2_377) (e_ec := show ecn A370 (G369 31) = ec2_377 from e387)  (h_kind := ⟨(by decide), (by decide)⟩) (h_a := ⟨(Int.le_trans (by decide : (-2147483648 : Int) ≤ -2147483648) b381.1), (Int.le_trans b381.2 (by decide : (2147483647 : Int) ≤ 2147483647))⟩) (h_b := ⟨(Int.le_trans (by decide : (-2147483648 : Int) ≤ -2147483648) h_pa.1), (Int.le_trans h_pa.2 (by decide : (2147483647 : Int) ≤ 2147483647))⟩) (h_c := ⟨(by decide), (by decide)⟩) (h_e := ⟨(by decide), (by decide)⟩)  (p_0 := by omega) (p_1 := by omega) (p_2 := by omega)) (fun o V' hq => ?_)
                              obtain ⟨G406, A407, nd2_408, ec2_409, rfl, rfl, hW410, hF411, hQ412, e413, e414, p415, p416, p417, -⟩ := hq
                              have hF419 := Fr_tr hF395 hF411 (Fr_sub (by decide)) (Fr_sub (by decide))
                              have hP420 := Pf_tr hP396 hQ412 (by omega)
                              have bnd2_408 : (0 : Int) ≤ nd2_408 ∧ nd2_408 ≤ 6999 := e413 ▸ hW410.1 31
                              refine .inr ⟨_, rfl, ?_⟩
                              refine jx_rt (v := some (.int (i32 (nd2_375)))) rfl rfl rfl rfl rfl rfl ?_
                              have z421 := tz_f (tk2_376)
                              exact ⟨_, _, _, at2_372, fk2_373, op2_374, nd2_408, tk2_376, ec2_409, rfl, rfl, hW410, hF419, hP420, by omega, ((hF411.1 10 rfl).trans (e382)), ((hF411.1 16 rfl).trans (e383)), ((hF411.1 15 rfl).trans (e384)), (e413), ((hF411.1 11 rfl).trans (e386)), e414, by omega, by omega, by omega, by omega, by omega, by omega, by first | exact Or.inl (⟨by omega, by omega, by omega⟩)⟩
                            · have _q : True := trivial
                              refine jx_ld (pc' := 172) (l' := jSto1 L71 3 (.int (i32 (r371)))) (st' := []) rfl rfl ?_
                              obtain ⟨L422, eL422⟩ : ∃ q, q = jSto1 L71 3 (.int (i32 (r371))) := ⟨_, rfl⟩
                              rw [← eL422]
                              have gL422_0 : jGet L422 0 = some (.ref 66) := eL422 ▸ jg_ne (by decide) gL71_0 rfl
                              have gL422_1 : jGet L422 1 = some (.int (i32 (pa))) := eL422 ▸ jg_ne (by decide) gL71_1 rfl
                              have gL422_2 : jGet L422 2 = some (.int (i32 (kp))) := eL422 ▸ jg_ne (by decide) gL71_2 rfl
                              have gL422_4 : jGet L422 4 = some (.int (i32 (G 12))) := eL422 ▸ jg_ne (by decide) gL71_4 rfl
                              have gL422_5 : jGet L422 5 = some (.int (i32 (r47))) := eL422 ▸ jg_ne (by decide) gL71_5 rfl
                              have gL422_3 : jGet L422 3 = some (.int (i32 (r371))) := eL422 ▸ jg_eq
                              refine jx_ld (pc' := 173) (l' := L422) (st' := [.ref 66]) rfl (jl_aloadn gL422_0) ?_
                              refine jx_ar (pc' := 175) (st' := [.int (i32 (7)), .ref 66]) rfl rfl rfl rfl ?_
                              refine jx_ld (pc' := 176) (l' := L422) (st' := [.int (i32 (r371)), .int (i32 (7)), .ref 66]) rfl (jl_iloadn gL422_3) ?_
                              refine jx_ld (pc' := 177) (l' := L422) (st' := [.int (i32 (pa)), .int (i32 (r371)), .int (i32 (7)), .ref 66]) rfl (jl_iloadn gL422_1) ?_
                              refine jx_ar (pc' := 178) (st' := [.int (i32 (0)), .int (i32 (pa)), .int (i32 (r371)), .int (i32 (7)), .ref 66]) rfl rfl rfl rfl ?_
                              refine jx_ar (pc' := 179) (st' := [.int (i32 (0)), .int (i32 (0)), .int (i32 (pa)), .int (i32 (r371)), .int (i32 (7)), .ref 66]) rfl rfl rfl rfl ?_
                              refine jx_vr (pc' := 182) (as := [.int (i32 (7)), .int (i32 (r371)), .int (i32 (pa)), .int (i32 (0)), .int (i32 (0))]) (st := []) rfl rfl rfl rfl ⟨rfl, rfl, Nat.le_of_ble_eq_true rfl⟩ rfl rfl (c_node_o (dd := d) (hd := by omega) (hW := hW378) (kind := 7) (a := r371) (b := pa) (c := 0) (e := 0) (nd := nd2_375) (e_nd := show G369 31 = nd2_375 from (e385)) (ec := ec2_377) (e_ec := show ecn A370 (G369 31) = ec2_377 from e387)  (h_kind := ⟨(by decide), (by decide)⟩) (h_a := ⟨(Int.le_trans (by decide : (-2147483648 : Int) ≤ -2147483648) b381.1), (Int.le_trans b381.2 (by decide : (2147483647 : Int) ≤ 2147483647))⟩) (h_b := ⟨(Int.le_trans (by decide : (-2147483648 : Int) ≤ -2147483648) h_pa.1), (Int.le_trans h_pa.2 (by decide : (2147483647 : Int) ≤ 2147483647))⟩) (h_c := ⟨(by decide), (by decide)⟩) (h_e := ⟨(by decide), (by decide)⟩)  (p_0 := by omega) (p_1 := by omega) (p_2 := by omega)) (fun o V' hq => ?_)
                              obtain ⟨G423, A424, nd2_425, ec2_426, rfl, rfl, hW427, hF428, hQ429, e430, e431, p432, p433, p434, -⟩ := hq
                              have hF436 := Fr_tr hF395 hF428 (Fr_sub (by decide)) (Fr_sub (by decide))
                              have hP437 := Pf_tr hP396 hQ429 (by omega)
                              have sf438 : wR A424 Vs sb (20) (1) (r371) (nd) (nd2_375) := wR_ag (by omega) (Sg_fr hF428 (by decide)) (Ag_pf hQ429 (by omega)) a403
                              have bnd2_425 : (0 : Int) ≤ nd2_425 ∧ nd2_425 ≤ 6999 := e430 ▸ hW427.1 31
                              refine .inr ⟨_, rfl, ?_⟩
                              refine jx_rt (v := some (.int (i32 (nd2_375)))) rfl rfl rfl rfl rfl rfl ?_
                              have z439 := tz_f (tk2_376)
                              exact ⟨_, _, _, at2_372, fk2_373, op2_374, nd2_425, tk2_376, ec2_426, rfl, rfl, hW427, hF436, hP437, by omega, ((hF428.1 10 rfl).trans (e382)), ((hF428.1 16 rfl).trans (e383)), ((hF428.1 15 rfl).trans (e384)), (e430), ((hF428.1 11 rfl).trans (e386)), e431, by omega, by omega, by omega, by omega, by omega, by omega, by first | exact Or.inr ((⟨by omega, by omega, by omega, by omega, by omega, (wA_mk p434 (by omega) (by omega) (by omega) (by omega) (.inr (.inr (.inl ⟨((show A424 7 (pa).toNat = kp from (congrFun ((hF428.2 7 rfl).trans ((hF379.2 7 rfl).trans ((hF285.2 7 rfl).trans (hF50.2 7 rfl)))) _).trans (e_kp)).trans (by omega : kp = 8)), (wR_mono (by omega) (by omega) (by omega) sf438)⟩)))), (NX_nd p434), by omega⟩))⟩
                        · have _q := h296
                          refine jx_ld (pc' := 139) (l' := L71) (st' := [.ref 66]) rfl (jl_aloadn gL71_0) ?_
                          refine jx_ar (pc' := 140) (st' := [.int (i32 (2)), .ref 66]) rfl rfl rfl rfl ?_
                          refine jx_ld (pc' := 142) (l' := L71) (st' := [.int (i32 (r47)), .int (i32 (2)), .ref 66]) rfl (jl_iload gL71_5) ?_
                          refine jx_ar (pc' := 143) (st' := [.int (i32 (0)), .int (i32 (r47)), .int (i32 (2)), .ref 66]) rfl rfl rfl rfl ?_
                          refine jx_ar (pc' := 144) (st' := [.int (i32 (0)), .int (i32 (0)), .int (i32 (r47)), .int (i32 (2)), .ref 66]) rfl rfl rfl rfl ?_
                          refine jx_ar (pc' := 145) (st' := [.int (i32 (0)), .int (i32 (0)), .int (i32 (0)), .int (i32 (r47)), .int (i32 (2)), .ref 66]) rfl rfl rfl rfl ?_
                          refine jx_vr (pc' := 148) (as := [.int (i32 (2)), .int (i32 (r47)), .int (i32 (0)), .int (i32 (0)), .int (i32 (0))]) (st := []) rfl rfl rfl rfl ⟨rfl, rfl, Nat.le_of_ble_eq_true rfl⟩ rfl rfl (c_node_o (dd := d) (hd := by omega) (hW := hW284) (kind := 2) (a := r47) (b := 0) (c := 0) (e := 0) (nd := nd) (e_nd := show G280 31 = nd from ((hF285.1 31 rfl).trans ((hF50.1 31 rfl).trans (e_nd)))) (ec := ec) (e_ec := show ecn A281 (G280 31) = ec from ec294)  (h_kind := ⟨(by decide), (by decide)⟩) (h_a := ⟨(Int.le_trans (by decide : (-2147483648 : Int) ≤ -2147483648) b51.1), (Int.le_trans b51.2 (by decide : (2147483647 : Int) ≤ 2147483647))⟩) (h_b := ⟨(by decide), (by decide)⟩) (h_c := ⟨(by decide), (by decide)⟩) (h_e := ⟨(by decide), (by decide)⟩)  (p_0 := by omega) (p_1 := by omega) (p_2 := by omega)) (fun o V' hq => ?_)
                          obtain ⟨G440, A441, nd2_442, ec2_443, rfl, rfl, hW444, hF445, hQ446, e447, e448, p449, p450, p451, -⟩ := hq
                          have hF453 := Fr_tr hF292 hF445 (Fr_sub (by decide)) (Fr_sub (by decide))
                          have hP454 := Pf_tr hP293 hQ446 (by omega)
                          have bnd2_442 : (0 : Int) ≤ nd2_442 ∧ nd2_442 ≤ 6999 := e447 ▸ hW444.1 31
                          refine .inr ⟨_, rfl, ?_⟩
                          refine jx_ld (pc' := 149) (l' := jSto1 L71 3 (.int (i32 (nd)))) (st' := []) rfl rfl ?_
                          obtain ⟨L455, eL455⟩ : ∃ q, q = jSto1 L71 3 (.int (i32 (nd))) := ⟨_, rfl⟩
                          rw [← eL455]
                          have gL455_0 : jGet L455 0 = some (.ref 66) := eL455 ▸ jg_ne (by decide) gL71_0 rfl
                          have gL455_1 : jGet L455 1 = some (.int (i32 (pa))) := eL455 ▸ jg_ne (by decide) gL71_1 rfl
                          have gL455_2 : jGet L455 2 = some (.int (i32 (kp))) := eL455 ▸ jg_ne (by decide) gL71_2 rfl
                          have gL455_4 : jGet L455 4 = some (.int (i32 (G 12))) := eL455 ▸ jg_ne (by decide) gL71_4 rfl
                          have gL455_5 : jGet L455 5 = some (.int (i32 (r47))) := eL455 ▸ jg_ne (by decide) gL71_5 rfl
                          have gL455_3 : jGet L455 3 = some (.int (i32 (nd))) := eL455 ▸ jg_eq
                          refine jx_go (tg := 172) rfl rfl ?_
                          refine jx_ld (pc' := 173) (l' := L455) (st' := [.ref 66]) rfl (jl_aloadn gL455_0) ?_
                          refine jx_ar (pc' := 175) (st' := [.int (i32 (7)), .ref 66]) rfl rfl rfl rfl ?_
                          refine jx_ld (pc' := 176) (l' := L455) (st' := [.int (i32 (nd)), .int (i32 (7)), .ref 66]) rfl (jl_iloadn gL455_3) ?_
                          refine jx_ld (pc' := 177) (l' := L455) (st' := [.int (i32 (pa)), .int (i32 (nd)), .int (i32 (7)), .ref 66]) rfl (jl_iloadn gL455_1) ?_
                          refine jx_ar (pc' := 178) (st' := [.int (i32 (0)), .int (i32 (pa)), .int (i32 (nd)), .int (i32 (7)), .ref 66]) rfl rfl rfl rfl ?_
                          refine jx_ar (pc' := 179) (st' := [.int (i32 (0)), .int (i32 (0)), .int (i32 (pa)), .int (i32 (nd)), .int (i32 (7)), .ref 66]) rfl rfl rfl rfl ?_
                          refine jx_vr (pc' := 182) (as := [.int (i32 (7)), .int (i32 (nd)), .int (i32 (pa)), .int (i32 (0)), .int (i32 (0))]) (st := []) rfl rfl rfl rfl ⟨rfl, rfl, Nat.le_of_ble_eq_true rfl⟩ rfl rfl (c_node_o (dd := d) (hd := by omega) (hW := hW444) (kind := 7) (a := nd) (b := pa) (c := 0) (e := 0) (nd := nd2_442) (e_nd := show G440 31 = nd2_442 from (e447)) (ec := ec2_443) (e_ec := show ecn A441 (G440 31) = ec2_443 from e448)  (h_kind := ⟨(by decide), (by decide)⟩) (h_a := ⟨(Int.le_trans (by decide : (-2147483648 : Int) ≤ 0) b_nd.1), (Int.le_trans b_nd.2 (by decide : (6999 : Int) ≤ 2147483647))⟩) (h_b := ⟨(Int.le_trans (by decide : (-2147483648 : Int) ≤ -2147483648) h_pa.1), (Int.le_trans h_pa.2 (by decide : (2147483647 : Int) ≤ 2147483647))⟩) (h_c := ⟨(by decide), (by decide)⟩) (h_e := ⟨(by decide), (by decide)⟩)  (p_0 := by omega) (p_1 := by omega) (p_2 := by omega)) (fun o V' hq => ?_)
                          obtain ⟨G456, A457, nd2_458, ec2_459, rfl, rfl, hW460, hF461, hQ462, e463, e464, p465, p466, p467, -⟩ := hq
                          have hF469 := Fr_tr hF453 hF461 (Fr_sub (by decide)) (Fr_sub (by decide))
                          have hP470 := Pf_tr hP454 hQ462 (by omega)
                          have sf471 : ND A457 (nd) (2) (r47) (0) (0) (0) (0) (0) := ND_ag (by omega) (Ag_pf hQ462 (by omega)) p451
                          have bnd2_458 : (0 : Int) ≤ nd2_458 ∧ nd2_458 ≤ 6999 := e463 ▸ hW460.1 31
                          refine .inr ⟨_, rfl, ?_⟩
                          refine jx_rt (v := some (.int (i32 (nd2_442)))) rfl rfl rfl rfl rfl rfl ?_
                          have z472 := tz_f (tk2_283)
                          exact ⟨_, _, _, at2_282, fk2_48, op0, nd2_458, tk2_283, ec2_459, rfl, rfl, hW460, hF469, hP470, by omega, ((hF461.1 10 rfl).trans ((hF445.1 10 rfl).trans (e286))), ((hF461.1 16 rfl).trans ((hF445.1 16 rfl).trans ((hF285.1 16 rfl).trans (e52)))), ((hF461.1 15 rfl).trans ((hF445.1 15 rfl).trans ((hF285.1 15 rfl).trans ((hF50.1 15 rfl).trans (e_op0))))), (e463), ((hF461.1 11 rfl).trans ((hF445.1 11 rfl).trans (e287))), e464, by omega, by omega, by omega, by omega, by omega, by omega, by first | exact Or.inr ((⟨by omega, by omega, by omega, by omega, by omega, (wA_mk p467 (by omega) (by omega) (by omega) (by omega) (.inr (.inr (.inr ⟨((show A457 7 (pa).toNat = kp from (congrFun ((hF461.2 7 rfl).trans ((hF445.2 7 rfl).trans ((hF285.2 7 rfl).trans (hF50.2 7 rfl)))) _).trans (e_kp)).trans (by omega : kp = 7)), wW_mk sf471 (by omega) (by omega) a62 (kq (P := kArr) (show A457 7 (r47).toNat = A 7 (r47).toNat from (congrFun ((hF461.2 7 rfl).trans ((hF445.2 7 rfl).trans ((hF285.2 7 rfl).trans (hF50.2 7 rfl)))) _)) a276) ((show A457 8 (r47).toNat = A 8 (r47).toNat from (congrFun ((hF461.2 8 rfl).trans ((hF445.2 8 rfl).trans ((hF285.2 8 rfl).trans (hF50.2 8 rfl)))) _)).trans ((by omega : A 8 (r47).toNat = zp).trans (show A457 8 (pa).toNat = zp from (congrFun ((hF461.2 8 rfl).trans ((hF445.2 8 rfl).trans ((hF285.2 8 rfl).trans (hF50.2 8 rfl)))) _).trans (e_zp)).symm))⟩)))), (NX_nd p467), by omega⟩))⟩
                      · have _q := h279
                        refine jx_ld (pc' := 120) (l' := L71) (st' := [.ref 66]) rfl (jl_aloadn gL71_0) ?_
                        refine jx_ar (pc' := 121) (st' := [.int (i32 (4)), .ref 66]) rfl rfl rfl rfl ?_
                        refine jx_ld (pc' := 123) (l' := L71) (st' := [.int (i32 (G 12)), .int (i32 (4)), .ref 66]) rfl (jl_iload gL71_4) ?_
                        refine jx_vr (pc' := 126) (as := [.int (i32 (4)), .int (i32 (G 12))]) (st := []) rfl rfl rfl rfl ⟨rfl, rfl, Nat.le_of_ble_eq_true rfl⟩ rfl rfl (c_fail (dd := d) (hd := by omega) (hW := hW49) (kind := 4) (place := G 12) (fk := fk2_48) (e_fk := show G45 16 = fk2_48 from (e52))  (h_kind := ⟨(by decide), (by decide)⟩) (h_place := ⟨(Int.le_trans (by decide : (-2147483648 : Int) ≤ -3000) b43.1), (Int.le_trans b43.2 (by decide : (3002 : Int) ≤ 2147483647))⟩)  (p_0 := by omega) (p_1 := by omega)) (fun o V' hq => ?_)
                        obtain ⟨G473, A474, fk2_475, rfl, rfl, hW476, hF477, e478, p479, -⟩ := hq
                        have hF481 := Fr_tr hF54 hF477 (Fr_sub (by decide)) (Fr_sub (by decide))
                        have hP482 := Pf_f hP55 hF477 (by decide)
                        have ec483 : ecn A474 (G473 31) = ec := (ecn_f (hF477.2 15 rfl) (hF477.1 31 rfl)).trans ec56
                        have bfk2_475 : (0 : Int) ≤ fk2_475 ∧ fk2_475 ≤ 6 := e478 ▸ hW476.1 16
                        refine .inl ⟨rfl, ?_⟩
                        refine jx_ar (pc' := 127) (st' := [.int (i32 (0))]) rfl rfl rfl rfl ?_
                        refine jx_rt (v := some (.int (i32 (0)))) rfl rfl rfl rfl rfl rfl ?_
                        have z484 := tz_f (tk0)
                        exact ⟨_, _, _, at0, fk2_475, op0, nd, tk0, ec, rfl, rfl, hW476, hF481, hP482, by omega, ((hF477.1 10 rfl).trans ((hF50.1 10 rfl).trans (e_at0))), (e478), ((hF477.1 15 rfl).trans ((hF50.1 15 rfl).trans (e_op0))), ((hF477.1 31 rfl).trans ((hF50.1 31 rfl).trans (e_nd))), ((hF477.1 11 rfl).trans ((hF50.1 11 rfl).trans (e_tk0))), ec483, by omega, by omega, by omega, by omega, by omega, by omega, by first | exact Or.inl (⟨by omega, by omega, by omega⟩)⟩
                  · have _q : True := trivial
                    refine jx_if_eq (pc' := 103) (tg := 119) rfl rfl rfl (by decide) (by decide) (fun h485 => ?_) (fun h485 => ?_)
                    · have _q := h485
                      refine jx_ld (pc' := 120) (l' := L71) (st' := [.ref 66]) rfl (jl_aloadn gL71_0) ?_
                      refine jx_ar (pc' := 121) (st' := [.int (i32 (4)), .ref 66]) rfl rfl rfl rfl ?_
                      refine jx_ld (pc' := 123) (l' := L71) (st' := [.int (i32 (G 12)), .int (i32 (4)), .ref 66]) rfl (jl_iload gL71_4) ?_
                      refine jx_vr (pc' := 126) (as := [.int (i32 (4)), .int (i32 (G 12))]) (st := []) rfl rfl rfl rfl ⟨rfl, rfl, Nat.le_of_ble_eq_true rfl⟩ rfl rfl (c_fail (dd := d) (hd := by omega) (hW := hW49) (kind := 4) (place := G 12) (fk := fk2_48) (e_fk := show G45 16 = fk2_48 from (e52))  (h_kind := ⟨(by decide), (by decide)⟩) (h_place := ⟨(Int.le_trans (by decide : (-2147483648 : Int) ≤ -3000) b43.1), (Int.le_trans b43.2 (by decide : (3002 : Int) ≤ 2147483647))⟩)  (p_0 := by omega) (p_1 := by omega)) (fun o V' hq => ?_)
                      obtain ⟨G486, A487, fk2_488, rfl, rfl, hW489, hF490, e491, p492, -⟩ := hq
                      have hF494 := Fr_tr hF54 hF490 (Fr_sub (by decide)) (Fr_sub (by decide))
                      have hP495 := Pf_f hP55 hF490 (by decide)
                      have ec496 : ecn A487 (G486 31) = ec := (ecn_f (hF490.2 15 rfl) (hF490.1 31 rfl)).trans ec56
                      have bfk2_488 : (0 : Int) ≤ fk2_488 ∧ fk2_488 ≤ 6 := e491 ▸ hW489.1 16
                      refine .inl ⟨rfl, ?_⟩
                      refine jx_ar (pc' := 127) (st' := [.int (i32 (0))]) rfl rfl rfl rfl ?_
                      refine jx_rt (v := some (.int (i32 (0)))) rfl rfl rfl rfl rfl rfl ?_
                      have z497 := tz_f (tk0)
                      exact ⟨_, _, _, at0, fk2_488, op0, nd, tk0, ec, rfl, rfl, hW489, hF494, hP495, by omega, ((hF490.1 10 rfl).trans ((hF50.1 10 rfl).trans (e_at0))), (e491), ((hF490.1 15 rfl).trans ((hF50.1 15 rfl).trans (e_op0))), ((hF490.1 31 rfl).trans ((hF50.1 31 rfl).trans (e_nd))), ((hF490.1 11 rfl).trans ((hF50.1 11 rfl).trans (e_tk0))), ec496, by omega, by omega, by omega, by omega, by omega, by omega, by first | exact Or.inl (⟨by omega, by omega, by omega⟩)⟩
                    · have _q := h485
                      exact absurd h485 (by omega)
              · have _q := h77
                exact absurd h77 (by omega)
        · have _q := h42
          refine jx_ld (pc' := 52) (l' := L2) (st' := [.ref 66]) rfl (jl_aloadn gL2_0) ?_
          refine jx_ar (pc' := 53) (st' := [.int (i32 (4)), .ref 66]) rfl rfl rfl rfl ?_
          refine jx_ld (pc' := 54) (l' := L2) (st' := [.ref 66, .int (i32 (4)), .ref 66]) rfl (jl_aloadn gL2_0) ?_
          have b498 : (-3000 : Int) ≤ G 12 ∧ G 12 ≤ 3002 := hW.1 12
          refine jr_get (pc' := 57) (i := 12) (v := .int (i32 (G 12))) rfl rfl (by decide) rfl rfl ?_
          refine jx_vr (pc' := 60) (as := [.int (i32 (4)), .int (i32 (G 12))]) (st := []) rfl rfl rfl rfl ⟨rfl, rfl, Nat.le_of_ble_eq_true rfl⟩ rfl rfl (c_fail (dd := d) (hd := by omega) (hW := hW) (kind := 4) (place := G 12) (fk := fk) (e_fk := show G 16 = fk from (e_fk))  (h_kind := ⟨(by decide), (by decide)⟩) (h_place := ⟨(Int.le_trans (by decide : (-2147483648 : Int) ≤ -3000) b498.1), (Int.le_trans b498.2 (by decide : (3002 : Int) ≤ 2147483647))⟩)  (p_0 := by omega) (p_1 := by omega)) (fun o V' hq => ?_)
          obtain ⟨G499, A500, fk2_501, rfl, rfl, hW502, hF503, e504, p505, -⟩ := hq
          have hF507 := Fr_tr hF0 hF503 (Fr_sub (by decide)) (Fr_sub (by decide))
          have hP508 := Pf_f hP0 hF503 (by decide)
          have ec509 : ecn A500 (G499 31) = ec := (ecn_f (hF503.2 15 rfl) (hF503.1 31 rfl)).trans e_ec
          have bfk2_501 : (0 : Int) ≤ fk2_501 ∧ fk2_501 ≤ 6 := e504 ▸ hW502.1 16
          refine .inl ⟨rfl, ?_⟩
          refine jx_go (tg := 172) rfl rfl ?_
          refine jx_ld (pc' := 173) (l' := L2) (st' := [.ref 66]) rfl (jl_aloadn gL2_0) ?_
          refine jx_ar (pc' := 175) (st' := [.int (i32 (7)), .ref 66]) rfl rfl rfl rfl ?_
          refine jx_ld (pc' := 176) (l' := L2) (st' := [.int (i32 (0)), .int (i32 (7)), .ref 66]) rfl (jl_iloadn gL2_3) ?_
          refine jx_ld (pc' := 177) (l' := L2) (st' := [.int (i32 (pa)), .int (i32 (0)), .int (i32 (7)), .ref 66]) rfl (jl_iloadn gL2_1) ?_
          refine jx_ar (pc' := 178) (st' := [.int (i32 (0)), .int (i32 (pa)), .int (i32 (0)), .int (i32 (7)), .ref 66]) rfl rfl rfl rfl ?_
          refine jx_ar (pc' := 179) (st' := [.int (i32 (0)), .int (i32 (0)), .int (i32 (pa)), .int (i32 (0)), .int (i32 (7)), .ref 66]) rfl rfl rfl rfl ?_
          refine jx_vr (pc' := 182) (as := [.int (i32 (7)), .int (i32 (0)), .int (i32 (pa)), .int (i32 (0)), .int (i32 (0))]) (st := []) rfl rfl rfl rfl ⟨rfl, rfl, Nat.le_of_ble_eq_true rfl⟩ rfl rfl (c_node_o (dd := d) (hd := by omega) (hW := hW502) (kind := 7) (a := 0) (b := pa) (c := 0) (e := 0) (nd := nd) (e_nd := show G499 31 = nd from ((hF503.1 31 rfl).trans (e_nd))) (ec := ec) (e_ec := show ecn A500 (G499 31) = ec from ec509)  (h_kind := ⟨(by decide), (by decide)⟩) (h_a := ⟨(by decide), (by decide)⟩) (h_b := ⟨(Int.le_trans (by decide : (-2147483648 : Int) ≤ -2147483648) h_pa.1), (Int.le_trans h_pa.2 (by decide : (2147483647 : Int) ≤ 2147483647))⟩) (h_c := ⟨(by decide), (by decide)⟩) (h_e := ⟨(by decide), (by decide)⟩)  (p_0 := by omega) (p_1 := by omega) (p_2 := by omega)) (fun o V' hq => ?_)
          obtain ⟨G510, A511, nd2_512, ec2_513, rfl, rfl, hW514, hF515, hQ516, e517, e518, p519, p520, p521, -⟩ := hq
          have hF523 := Fr_tr hF507 hF515 (Fr_sub (by decide)) (Fr_sub (by decide))
          have hP524 := Pf_tr hP508 hQ516 (by omega)
          have bnd2_512 : (0 : Int) ≤ nd2_512 ∧ nd2_512 ≤ 6999 := e517 ▸ hW514.1 31
          refine .inr ⟨_, rfl, ?_⟩
          refine jx_rt (v := some (.int (i32 (nd)))) rfl rfl rfl rfl rfl rfl ?_
          have z525 := tz_f (tk0)
          exact ⟨_, _, _, at0, fk2_501, op0, nd2_512, tk0, ec2_513, rfl, rfl, hW514, hF523, hP524, by omega, ((hF515.1 10 rfl).trans ((hF503.1 10 rfl).trans (e_at0))), ((hF515.1 16 rfl).trans (e504)), ((hF515.1 15 rfl).trans ((hF503.1 15 rfl).trans (e_op0))), (e517), ((hF515.1 11 rfl).trans ((hF503.1 11 rfl).trans (e_tk0))), e518, by omega, by omega, by omega, by omega, by omega, by omega, by first | exact Or.inl (⟨by omega, by omega, by omega⟩)⟩
      · have _q := h40
        refine jx_ld (pc' := 36) (l' := L2) (st' := [.ref 66]) rfl (jl_aloadn gL2_0) ?_
        refine jx_vr (pc' := 39) (as := []) (st := []) rfl rfl rfl rfl ⟨rfl, rfl, Nat.le_of_ble_eq_true rfl⟩ rfl rfl (REw_all X 9 (dd := d) (hd := by omega) (hW := hW)  (ln := ln) (e_ln := show G 9 = ln from (e_ln)) (le := le) (e_le := show A 4 (ln).toNat = le from (e_le)) (at0 := at0) (e_at0 := show G 10 = at0 from (e_at0)) (fk := fk) (e_fk := show G 16 = fk from (e_fk)) (op0 := op0) (e_op0 := show G 15 = op0 from (e_op0)) (nd := nd) (e_nd := show G 31 = nd from (e_nd)) (tk0 := tk0) (e_tk0 := show G 11 = tk0 from (e_tk0)) (ec := ec) (e_ec := show ecn A (G 31) = ec from e_ec) (i_SV := (SV_ext (rfl) (rfl) i_SV))   (p_0 := by omega) (p_1 := by omega) (p_2 := by omega) (p_3 := by omega) (p_4 := by omega) (p_5 := by omega)) (fun o V' hq => ?_)
        obtain ⟨G526, A527, r528, at2_529, fk2_530, op2_531, nd2_532, tk2_533, ec2_534, rfl, rfl, hW535, hF536, hQ537, b538, e539, e540, e541, e542, e543, e544, p545, p546, p547, p548, p549, p550, q551⟩ := hq
        have hF552 := Fr_tr hF0 hF536 (Fr_sub (by decide)) (Fr_sub (by decide))
        have hP553 := Pf_tr hP0 hQ537 (by omega)
        have bat2_529 : (0 : Int) ≤ at2_529 ∧ at2_529 ≤ 3002 := e539 ▸ hW535.1 10
        have bfk2_530 : (0 : Int) ≤ fk2_530 ∧ fk2_530 ≤ 6 := e540 ▸ hW535.1 16
        have bop2_531 : (-2147483648 : Int) ≤ op2_531 ∧ op2_531 ≤ 2147483647 := e541 ▸ hW535.1 15
        have bnd2_532 : (0 : Int) ≤ nd2_532 ∧ nd2_532 ≤ 6999 := e542 ▸ hW535.1 31
        have ztk2_533 := tz_b tk2_533
        have btk2_533 : (0 : Int) ≤ tk2_533 ∧ tk2_533 ≤ 5 := e543 ▸ hW535.1 11
        refine .inr ⟨_, rfl, ?_⟩
        rcases q551 with ⟨a554, a555, a556, a557, a558, a559⟩ | ⟨a560, a561, a562⟩ | ⟨a563, a564, a565, a566, a567, a568⟩
        · have _q : True := trivial
          exfalso
          omega
        · have _q : True := trivial
          refine jx_ld (pc' := 40) (l' := jSto1 L2 3 (.int (i32 (r528)))) (st' := []) rfl rfl ?_
          obtain ⟨L569, eL569⟩ : ∃ q, q = jSto1 L2 3 (.int (i32 (r528))) := ⟨_, rfl⟩
          rw [← eL569]
          have gL569_0 : jGet L569 0 = some (.ref 66) := eL569 ▸ jg_ne (by decide) gL2_0 rfl
          have gL569_1 : jGet L569 1 = some (.int (i32 (pa))) := eL569 ▸ jg_ne (by decide) gL2_1 rfl
          have gL569_2 : jGet L569 2 = some (.int (i32 (kp))) := eL569 ▸ jg_ne (by decide) gL2_2 rfl
          have gL569_3 : jGet L569 3 = some (.int (i32 (r528))) := eL569 ▸ jg_eq
          refine jx_go (tg := 172) rfl rfl ?_
          refine jx_ld (pc' := 173) (l' := L569) (st' := [.ref 66]) rfl (jl_aloadn gL569_0) ?_
          refine jx_ar (pc' := 175) (st' := [.int (i32 (7)), .ref 66]) rfl rfl rfl rfl ?_
          refine jx_ld (pc' := 176) (l' := L569) (st' := [.int (i32 (r528)), .int (i32 (7)), .ref 66]) rfl (jl_iloadn gL569_3) ?_
          refine jx_ld (pc' := 177) (l' := L569) (st' := [.int (i32 (pa)), .int (i32 (r528)), .int (i32 (7)), .ref 66]) rfl (jl_iloadn gL569_1) ?_
          refine jx_ar (pc' := 178) (st' := [.int (i32 (0)), .int (i32 (pa)), .int (i32 (r528)), .int (i32 (7)), .ref 66]) rfl rfl rfl rfl ?_
          refine jx_ar (pc' := 179) (st' := [.int (i32 (0)), .int (i32 (0)), .int (i32 (pa)), .int (i32 (r528)), .int (i32 (7)), .ref 66]) rfl rfl rfl rfl ?_
          refine jx_vr (pc' := 182) (as := [.int (i32 (7)), .int (i32 (r528)), .int (i32 (pa)), .int (i32 (0)), .int (i32 (0))]) (st := []) rfl rfl rfl rfl ⟨rfl, rfl, Nat.le_of_ble_eq_true rfl⟩ rfl rfl (c_node_o (dd := d) (hd := by omega) (hW := hW535) (kind := 7) (a := r528) (b := pa) (c := 0) (e := 0) (nd := nd2_532) (e_nd := show G526 31 = nd2_532 from (e542)) (ec := ec2_534) (e_ec := show ecn A527 (G526 31) = ec2_534 from e544)  (h_kind := ⟨(by decide), (by decide)⟩) (h_a := ⟨(Int.le_trans (by decide : (-2147483648 : Int) ≤ -2147483648) b538.1), (Int.le_trans b538.2 (by decide : (2147483647 : Int) ≤ 2147483647))⟩) (h_b := ⟨(Int.le_trans (by decide : (-2147483648 : Int) ≤ -2147483648) h_pa.1), (Int.le_trans h_pa.2 (by decide : (2147483647 : Int) ≤ 2147483647))⟩) (h_c := ⟨(by decide), (by decide)⟩) (h_e := ⟨(by decide), (by decide)⟩)  (p_0 := by omega) (p_1 := by omega) (p_2 := by omega)) (fun o V' hq => ?_)
          obtain ⟨G570, A571, nd2_572, ec2_573, rfl, rfl, hW574, hF575, hQ576, e577, e578, p579, p580, p581, -⟩ := hq
          have hF583 := Fr_tr hF552 hF575 (Fr_sub (by decide)) (Fr_sub (by decide))
          have hP584 := Pf_tr hP553 hQ576 (by omega)
          have bnd2_572 : (0 : Int) ≤ nd2_572 ∧ nd2_572 ≤ 6999 := e577 ▸ hW574.1 31
          refine .inr ⟨_, rfl, ?_⟩
          refine jx_rt (v := some (.int (i32 (nd2_532)))) rfl rfl rfl rfl rfl rfl ?_
          have z585 := tz_f (tk2_533)
          exact ⟨_, _, _, at2_529, fk2_530, op2_531, nd2_572, tk2_533, ec2_573, rfl, rfl, hW574, hF583, hP584, by omega, ((hF575.1 10 rfl).trans (e539)), ((hF575.1 16 rfl).trans (e540)), ((hF575.1 15 rfl).trans (e541)), (e577), ((hF575.1 11 rfl).trans (e543)), e578, by omega, by omega, by omega, by omega, by omega, by omega, by first | exact Or.inl (⟨by omega, by omega, by omega⟩)⟩
        · have _q : True := trivial
          refine jx_ld (pc' := 40) (l' := jSto1 L2 3 (.int (i32 (r528)))) (st' := []) rfl rfl ?_
          obtain ⟨L586, eL586⟩ : ∃ q, q = jSto1 L2 3 (.int (i32 (r528))) := ⟨_, rfl⟩
          rw [← eL586]
          have gL586_0 : jGet L586 0 = some (.ref 66) := eL586 ▸ jg_ne (by decide) gL2_0 rfl
          have gL586_1 : jGet L586 1 = some (.int (i32 (pa))) := eL586 ▸ jg_ne (by decide) gL2_1 rfl
          have gL586_2 : jGet L586 2 = some (.int (i32 (kp))) := eL586 ▸ jg_ne (by decide) gL2_2 rfl
          have gL586_3 : jGet L586 3 = some (.int (i32 (r528))) := eL586 ▸ jg_eq
          refine jx_go (tg := 172) rfl rfl ?_
          refine jx_ld (pc' := 173) (l' := L586) (st' := [.ref 66]) rfl (jl_aloadn gL586_0) ?_
          refine jx_ar (pc' := 175) (st' := [.int (i32 (7)), .ref 66]) rfl rfl rfl rfl ?_
          refine jx_ld (pc' := 176) (l' := L586) (st' := [.int (i32 (r528)), .int (i32 (7)), .ref 66]) rfl (jl_iloadn gL586_3) ?_
          refine jx_ld (pc' := 177) (l' := L586) (st' := [.int (i32 (pa)), .int (i32 (r528)), .int (i32 (7)), .ref 66]) rfl (jl_iloadn gL586_1) ?_
          refine jx_ar (pc' := 178) (st' := [.int (i32 (0)), .int (i32 (pa)), .int (i32 (r528)), .int (i32 (7)), .ref 66]) rfl rfl rfl rfl ?_
          refine jx_ar (pc' := 179) (st' := [.int (i32 (0)), .int (i32 (0)), .int (i32 (pa)), .int (i32 (r528)), .int (i32 (7)), .ref 66]) rfl rfl rfl rfl ?_
          refine jx_vr (pc' := 182) (as := [.int (i32 (7)), .int (i32 (r528)), .int (i32 (pa)), .int (i32 (0)), .int (i32 (0))]) (st := []) rfl rfl rfl rfl ⟨rfl, rfl, Nat.le_of_ble_eq_true rfl⟩ rfl rfl (c_node_o (dd := d) (hd := by omega) (hW := hW535) (kind := 7) (a := r528) (b := pa) (c := 0) (e := 0) (nd := nd2_532) (e_nd := show G526 31 = nd2_532 from (e542)) (ec := ec2_534) (e_ec := show ecn A527 (G526 31) = ec2_534 from e544)  (h_kind := ⟨(by decide), (by decide)⟩) (h_a := ⟨(Int.le_trans (by decide : (-2147483648 : Int) ≤ -2147483648) b538.1), (Int.le_trans b538.2 (by decide : (2147483647 : Int) ≤ 2147483647))⟩) (h_b := ⟨(Int.le_trans (by decide : (-2147483648 : Int) ≤ -2147483648) h_pa.1), (Int.le_trans h_pa.2 (by decide : (2147483647 : Int) ≤ 2147483647))⟩) (h_c := ⟨(by decide), (by decide)⟩) (h_e := ⟨(by decide), (by decide)⟩)  (p_0 := by omega) (p_1 := by omega) (p_2 := by omega)) (fun o V' hq => ?_)
          obtain ⟨G587, A588, nd2_589, ec2_590, rfl, rfl, hW591, hF592, hQ593, e594, e595, p596, p597, p598, -⟩ := hq
          have hF600 := Fr_tr hF552 hF592 (Fr_sub (by decide)) (Fr_sub (by decide))
          have hP601 := Pf_tr hP553 hQ593 (by omega)
          have sf602 : wE A588 Vs sb (2 * 9 + 2) (r528) (nd) (nd2_532) := wE_ag (by omega) (Sg_fr hF592 (by decide)) (Ag_pf hQ593 (by omega)) a566
          have bnd2_589 : (0 : Int) ≤ nd2_589 ∧ nd2_589 ≤ 6999 := e594 ▸ hW591.1 31
          refine .inr ⟨_, rfl, ?_⟩
          refine jx_rt (v := some (.int (i32 (nd2_532)))) rfl rfl rfl rfl rfl rfl ?_
          have z603 := tz_f (tk2_533)
          exact ⟨_, _, _, at2_529, fk2_530, op2_531, nd2_589, tk2_533, ec2_590, rfl, rfl, hW591, hF600, hP601, by omega, ((hF592.1 10 rfl).trans (e539)), ((hF592.1 16 rfl).trans (e540)), ((hF592.1 15 rfl).trans (e541)), (e594), ((hF592.1 11 rfl).trans (e543)), e595, by omega, by omega, by omega, by omega, by omega, by omega, by first | exact Or.inr ((⟨by omega, by omega, by omega, by omega, by omega, (wA_mk p598 (by omega) (by omega) (by omega) (by omega) (.inl ⟨((show A588 7 (pa).toNat = kp from (congrFun ((hF592.2 7 rfl).trans (hF536.2 7 rfl)) _).trans (e_kp)).trans (by omega : kp = 5)), (wE_mono (by omega) (by omega) (by omega) sf602)⟩)), (NX_nd p598), by omega⟩))⟩
    · have _q := h39
      exact absurd h39 (by omega)
set_option maxRecDepth 20000 in
set_option maxHeartbeats 4000000 in
theorem c_readCall_w_at_88p {X : jX} {d : Nat} {Vs : Nat → Prop} {sb pb : Int} {c0 c1 : jC} {G : Nat → Int} {A : Nat → Nat → Int} {T : jH} {s : Int} {ln le at0 fk op0 nd tk0 li kd nu mp pp ec : Int} (hd : 71 ≤ d + 1) (hW : Wk G A) (e_ln : G 9 = ln) (e_le : A 4 (ln).toNat = le) (e_at0 : G 10 = at0) (e_fk : G 16 = fk) (e_op0 : G 15 = op0) (e_nd : G 31 = nd) (e_tk0 : G 11 = tk0) (e_li : G 3 = li) (e_kd : A 7 (s).toNat = kd) (e_nu : A 12 (s).toNat = nu) (e_mp : A 30 (nu).toNat = mp) (e_pp : A 29 (nu).toNat = pp) (e_ec : ecn A (G 31) = ec) (i_SV : SV Vs sb G A) (i_PQ : PQ Vs sb pb G A) (h_s : (-2147483648 : Int) ≤ s ∧ s ≤ 2147483647) (p_0 : 0 ≤ op0 ∧ op0 ≤ 8) (p_1 : fk = 0) (p_2 : nd ≤ 2 * at0 - tz tk0 + 42) (p_3 : at0 ≤ le) (p_4 : ln < li) (p_5 : 0 ≤ s ∧ s ≤ 201) (p_6 : 1 ≤ tk0) (p_7 : kd = 14) (p_8 : SY Vs sb (s)) : ∀ (L : jL) (Gx : Nat → Int) (Ax : Nat → Nat → Int) (n many last kk at1 tk1 fk1 nd1 op1 ec1 : Int), jGet L 0 = some (.ref 66) → jGet L 1 = some (.int (i32 (s))) → jGet L 2 = some (.int (i32 n)) → jGet L 3 = some (.int (i32 many)) → jGet L 4 = some (.int (i32 last)) → jGet L 5 = some (.int (i32 kk)) → Wk Gx Ax → Fr [9, 10, 11, 12, 13, 14, 15, 16, 17, 18, 31] [15, 16, 17, 18, 19, 20, 21, 22, 24, 28] G A Gx Ax → Pf nd A Ax → Gx 10 = at1 → Gx 11 = tk1 → Gx 16 = fk1 → Gx 31 = nd1 → Gx 15 = op1 → ecn Ax (Gx 31) = ec1 → Gx 9 = ln → ((-2147483648 : Int) ≤ n ∧ n ≤ 2147483647) → ((-2147483648 : Int) ≤ many ∧ many ≤ 2147483647) → ((-2147483648 : Int) ≤ last ∧ last ≤ 2147483647) → ((-2147483648 : Int) ≤ kk ∧ kk ≤ 2147483647) → (1 ≤ fk1) → (at0 ≤ at1) → (at1 ≤ le) → (nd ≤ n ∧ n ≤ 6998) → (nd ≤ nd1 ∧ n < nd1) → (0 ≤ op1 ∧ op1 ≤ 9) → (nd1 - nd ≤ (2 * at1 - tz tk1) - (2 * at0 - tz tk0) + 4) → wj X d jm305 (88, L, [], rV c0 c1 Gx Ax T) (fun o V' => ∃ (G' : Nat → Int) (A' : Nat → Nat → Int) (r : Int) (at2 : Int) (fk2 : Int) (nd2 : Int) (ln2 : Int) (ec2 : Int), V' = rV c0 c1 G' A' T ∧ o = .inl (some (.int (i32 r))) ∧ Wk G' A' ∧ Fr [9, 10, 11, 12, 13, 14, 15, 16, 17, 18, 31] [15, 16, 17, 18, 19, 20, 21, 22, 24, 28] G A G' A' ∧ Pf nd A A' ∧ ((-2147483648 : Int) ≤ r ∧ r ≤ 2147483647) ∧ G' 10 = at2 ∧ G' 16 = fk2 ∧ G' 31 = nd2 ∧ G' 9 = ln2 ∧ ecn A' (G' 31) = ec2 ∧ (at0 ≤ at2) ∧ (at2 ≤ le) ∧ (nd ≤ nd2) ∧ (0 ≤ r) ∧ (r ≤ nd2) ∧ (((1 ≤ fk2) ∧ (ln2 = ln) ∧ (nd2 - nd ≤ 2 * at2 - 2 * at0 + 8)) ∨ ((fk2 = 0) ∧ (ln2 = ln + 1) ∧ (nd2 - nd ≤ 2 * at2 - (2 * at0 - tz tk0) + 0) ∧ (nd ≤ r) ∧ (r < nd2) ∧ (wL A' sb pb Vs (r) (nd) (nd2)) ∧ (NX A' (r)) ∧ (nd2 - nd + 5 * (ec2 - ec) ≤ 2 * at2 - (2 * at0 - tz tk0) + 0)))) := by
  have hF0 : Fr [9, 10, 11, 12, 13, 14, 15, 16, 17, 18, 31] [15, 16, 17, 18, 19, 20, 21, 22, 24, 28] G A G A := Fr_rf
  have hP0 : Pf nd A A := Pf_rf
  have b_ln : (0 : Int) ≤ ln ∧ ln ≤ 3000 := e_ln ▸ hW.1 9
  have b_le : (0 : Int) ≤ le ∧ le ≤ 3000 := e_le ▸ hW.2 4 _
  have b_at0 : (0 : Int) ≤ at0 ∧ at0 ≤ 3002 := e_at0 ▸ hW.1 10
  have b_fk : (0 : Int) ≤ fk ∧ fk ≤ 6 := e_fk ▸ hW.1 16
  have b_op0 : (-2147483648 : Int) ≤ op0 ∧ op0 ≤ 2147483647 := e_op0 ▸ hW.1 15
  have b_nd : (0 : Int) ≤ nd ∧ nd ≤ 6999 := e_nd ▸ hW.1 31
  have z_tk0 := tz_f tk0
  have b_tk0 : (0 : Int) ≤ tk0 ∧ tk0 ≤ 5 := e_tk0 ▸ hW.1 11
  have b_li : (0 : Int) ≤ li ∧ li ≤ 3000 := e_li ▸ hW.1 3
  have b_kd : (0 : Int) ≤ kd ∧ kd ≤ 14 := e_kd ▸ hW.2 7 _
  have b_nu : (0 : Int) ≤ nu ∧ nu ≤ 24 := e_nu ▸ hW.2 12 _
  have b_mp : (0 : Int) ≤ mp ∧ mp ≤ 6 := e_mp ▸ hW.2 30 _
  have b_pp : (0 : Int) ≤ pp ∧ pp ≤ 202 := e_pp ▸ hW.2 29 _
  have pq := PQ_at i_PQ p_8 (e_kd.trans (by omega)) e_nu e_mp e_pp
  intro L Gx Ax n many last kk at1 tk1 fk1 nd1 op1 ec1 gL_0 gL_1 gL_2 gL_3 gL_4 gL_5 hWx hFx hPx ex_at1 ex_tk1 ex_fk1 ex_nd1 ex_op1 ex_ec1 fx_9 rx_n rx_many rx_last rx_kk iv_0 iv_1 iv_2 iv_3 iv_4 iv_5 iv_6
  have b_at1 : (0 : Int) ≤ at1 ∧ at1 ≤ 3002 := ex_at1 ▸ hWx.1 10
  have z_tk1 := tz_f tk1
  have b_tk1 : (0 : Int) ≤ tk1 ∧ tk1 ≤ 5 := ex_tk1 ▸ hWx.1 11
  have b_fk1 : (0 : Int) ≤ fk1 ∧ fk1 ≤ 6 := ex_fk1 ▸ hWx.1 16
  have b_nd1 : (0 : Int) ≤ nd1 ∧ nd1 ≤ 6999 := ex_nd1 ▸ hWx.1 31
  have b_op1 : (-2147483648 : Int) ≤ op1 ∧ op1 ≤ 2147483647 := ex_op1 ▸ hWx.1 15
  refine jx_ld (pc' := 89) (l' := L) (st' := [.ref 66]) rfl (jl_aloadn gL_0) ?_
  refine jx_vr (pc' := 92) (as := []) (st := []) rfl rfl rfl rfl ⟨rfl, rfl, Nat.le_of_ble_eq_true rfl⟩ rfl rfl (c_bad (dd := d) (hd := by omega) (hW := hWx)  (fk := fk1) (e_fk := show Gx 16 = fk1 from (ex_fk1))    ) (fun o V' hq => ?_)
  obtain ⟨r1, rfl, rfl, b2, q3⟩ := hq
  refine .inr ⟨_, rfl, ?_⟩
  rcases q3 with ⟨rfl, a4⟩ | ⟨rfl, a5⟩
  · have _q : True := trivial
    refine jx_if_ne (pc' := 95) (tg := 233) rfl rfl rfl (by decide) (by decide) (fun h6 => ?_) (fun h6 => ?_)
    · have _q := h6
      refine jx_ld (pc' := 234) (l' := L) (st' := [.ref 66]) rfl (jl_aloadn gL_0) ?_
      refine jx_ld (pc' := 235) (l' := L) (st' := [.ref 66, .ref 66]) rfl (jl_aloadn gL_0) ?_
      refine jx_ar (pc' := 237) (st' := [.int (i32 (41)), .ref 66, .ref 66]) rfl rfl rfl rfl ?_
      have b7 : (-2147483648 : Int) ≤ Gx 13 ∧ Gx 13 ≤ 2147483647 := hWx.1 13
      refine jx_vr (pc' := 240) (as := [.int (i32 (41))]) (st := [.ref 66]) rfl rfl rfl rfl ⟨rfl, rfl, Nat.le_of_ble_eq_true rfl⟩ rfl rfl (c_is (dd := d) (hd := by omega) (hW := hWx) (k := 41) (tk := tk1) (e_tk := show Gx 11 = tk1 from (ex_tk1)) (tn := Gx 13) (e_tn := show Gx 13 = Gx 13 from rfl)  (h_k := ⟨(by decide), (by decide)⟩)  ) (fun o V' hq => ?_)
      obtain ⟨r8, rfl, rfl, b9, q10⟩ := hq
      refine .inr ⟨_, rfl, ?_⟩
      rcases q10 with ⟨rfl, a11, a12, a13⟩ | rfl
      · have _q : True := trivial
        refine jx_vr (pc' := 243) (as := [.int (i32 (1))]) (st := []) rfl rfl rfl rfl ⟨rfl, rfl, Nat.le_of_ble_eq_true rfl⟩ rfl rfl (c_need (dd := d) (hd := by omega) (hW := hWx) (g := 1) (ln := ln) (e_ln := show Gx 9 = ln from (fx_9)) (le := le) (e_le := show Ax 4 (ln).toNat = le from (congrFun (hFx.2 4 rfl) _).trans (e_le)) (at0 := at1) (e_at0 := show Gx 10 = at1 from (ex_at1)) (fk := fk1) (e_fk := show Gx 16 = fk1 from (ex_fk1)) (tk0 := tk1) (e_tk0 := show Gx 11 = tk1 from (ex_tk1))  (h_g := ⟨(by decide), (by decide)⟩)  (p_0 := by omega)) (fun o V' hq => ?_)
        obtain ⟨G14, A15, at2_16, tk2_17, fk2_18, rfl, rfl, hW19, hF20, e21, e22, e23, p24, p25, q26⟩ := hq
        have hF27 := Fr_tr hFx hF20 (Fr_sub (by decide)) (Fr_sub (by decide))
        have hP28 := Pf_f hPx hF20 (by decide)
        have ec29 : ecn A15 (G14 31) = ec1 := (ecn_f (hF20.2 15 rfl) (hF20.1 31 rfl)).trans ex_ec1
        have bat2_16 : (0 : Int) ≤ at2_16 ∧ at2_16 ≤ 3002 := e21 ▸ hW19.1 10
        have ztk2_17 := tz_b tk2_17
        have btk2_17 : (0 : Int) ≤ tk2_17 ∧ tk2_17 ≤ 5 := e22 ▸ hW19.1 11
        have bfk2_18 : (0 : Int) ≤ fk2_18 ∧ fk2_18 ≤ 6 := e23 ▸ hW19.1 16
        refine .inl ⟨rfl, ?_⟩
        rcases q26 with ⟨a30, a31, a32, a33⟩ | ⟨a34, a35, a36, a37⟩
        · have _q : True := trivial
          refine jx_ld (pc' := 244) (l' := L) (st' := [.ref 66]) rfl (jl_aloadn gL_0) ?_
          refine jx_ar (pc' := 245) (st' := [.ref 66, .ref 66]) rfl rfl rfl rfl ?_
          refine jr_get (pc' := 248) (i := 15) (v := .int (i32 (op1))) rfl rfl (by decide) (rFv_eq (by decide) (show G14 15 = op1 from ((hF20.1 15 rfl).trans (ex_op1)))) rfl ?_
          refine jx_ar (pc' := 249) (st' := [.int (i32 (1)), .int (i32 (op1)), .ref 66]) rfl rfl rfl rfl ?_
          refine jx_sub (pc' := 250) rfl rfl ?_
          refine jr_put (pc' := 253) (i := 15) (z := (op1 - 1)) rfl rfl (by decide) rfl rfl rfl rfl rfl rfl ?_
          have hW38 : Wk (uG G14 15 ((op1 - 1))) A15 := Wk_g hW19 (show (-2147483648 : Int) ≤ (op1 - 1) by omega) (show (op1 - 1) ≤ (2147483647 : Int) by omega)
          have hF39 := Fr_g (z := (op1 - 1)) (i := 15) hF27 (by decide)
          have ec40 : ecn A15 ((uG G14 15 ((op1 - 1))) 31) = ec1 := ec29
          refine jx_ld (pc' := 254) (l' := L) (st' := [.ref 66]) rfl (jl_aloadn gL_0) ?_
          refine jx_vr (pc' := 257) (as := []) (st := []) rfl rfl rfl rfl ⟨rfl, rfl, Nat.le_of_ble_eq_true rfl⟩ rfl rfl (c_endLine (dd := d) (hd := by omega) (hW := hW38)  (ln := ln) (e_ln := show (uG G14 15 ((op1 - 1))) 9 = ln from ((hF20.1 9 rfl).trans (fx_9))) (li := li) (e_li := show (uG G14 15 ((op1 - 1))) 3 = li from ((hF20.1 3 rfl).trans ((hFx.1 3 rfl).trans (e_li)))) (fk := fk2_18) (e_fk := show (uG G14 15 ((op1 - 1))) 16 = fk2_18 from (e23)) (tk0 := tk2_17) (e_tk0 := show (uG G14 15 ((op1 - 1))) 11 = tk2_17 from (e22))    (p_0 := by omega)) (fun o V' hq => ?_)
          obtain ⟨G41, A42, ln2_43, fk2_44, rfl, rfl, hW45, hF46, e47, e48, q49⟩ := hq
          have hF50 := Fr_tr hF39 hF46 (Fr_sub (by decide)) (Fr_sub (by decide))
          have hP51 := Pf_f hP28 hF46 (by decide)
          have ec52 : ecn A42 (G41 31) = ec1 := (ecn_f (hF46.2 15 rfl) (hF46.1 31 rfl)).trans ec40
          have bln2_43 : (0 : Int) ≤ ln2_43 ∧ ln2_43 ≤ 3000 := e47 ▸ hW45.1 9
          have bfk2_44 : (0 : Int) ≤ fk2_44 ∧ fk2_44 ≤ 6 := e48 ▸ hW45.1 16
          refine .inl ⟨rfl, ?_⟩
          rcases q49 with ⟨a53, a54, a55, a56, a57⟩ | ⟨a58, a59⟩
          · have _q : True := trivial
            exfalso
            omega
          · have _q : True := trivial
            refine jx_ld (pc' := 258) (l' := L) (st' := [.int (i32 (n))]) rfl (jl_iloadn gL_2) ?_
            refine jx_rt (v := some (.int (i32 (n)))) rfl rfl rfl rfl rfl rfl ?_
            exact ⟨_, _, _, at2_16, fk2_44, nd1, ln2_43, ec1, rfl, rfl, hW45, hF50, hP51, by omega, ((hF46.1 10 rfl).trans (e21)), (e48), ((hF46.1 31 rfl).trans ((hF20.1 31 rfl).trans (ex_nd1))), (e47), ec52, by omega, by omega, by omega, by omega, by omega, by first | exact Or.inl (⟨by omega, by omega, by omega⟩)⟩
        · have _q : True := trivial
          exfalso
          omega
      · have _q : True := trivial
        refine jx_vr (pc' := 243) (as := [.int (i32 (0))]) (st := []) rfl rfl rfl rfl ⟨rfl, rfl, Nat.le_of_ble_eq_true rfl⟩ rfl rfl (c_need (dd := d) (hd := by omega) (hW := hWx) (g := 0) (ln := ln) (e_ln := show Gx 9 = ln from (fx_9)) (le := le) (e_le := show Ax 4 (ln).toNat = le from (congrFun (hFx.2 4 rfl) _).trans (e_le)) (at0 := at1) (e_at0 := show Gx 10 = at1 from (ex_at1)) (fk := fk1) (e_fk := show Gx 16 = fk1 from (ex_fk1)) (tk0 := tk1) (e_tk0 := show Gx 11 = tk1 from (ex_tk1))  (h_g := ⟨(by decide), (by decide)⟩)  (p_0 := by omega)) (fun o V' hq => ?_)
        obtain ⟨G60, A61, at2_62, tk2_63, fk2_64, rfl, rfl, hW65, hF66, e67, e68, e69, p70, p71, q72⟩ := hq
        have hF73 := Fr_tr hFx hF66 (Fr_sub (by decide)) (Fr_sub (by decide))
        have hP74 := Pf_f hPx hF66 (by decide)
        have ec75 : ecn A61 (G60 31) = ec1 := (ecn_f (hF66.2 15 rfl) (hF66.1 31 rfl)).trans ex_ec1
        have bat2_62 : (0 : Int) ≤ at2_62 ∧ at2_62 ≤ 3002 := e67 ▸ hW65.1 10
        have ztk2_63 := tz_b tk2_63
        have btk2_63 : (0 : Int) ≤ tk2_63 ∧ tk2_63 ≤ 5 := e68 ▸ hW65.1 11
        have bfk2_64 : (0 : Int) ≤ fk2_64 ∧ fk2_64 ≤ 6 := e69 ▸ hW65.1 16
        refine .inl ⟨rfl, ?_⟩
        rcases q72 with ⟨a76, a77, a78, a79⟩ | ⟨a80, a81, a82, a83⟩
        · have _q : True := trivial
          refine jx_ld (pc' := 244) (l' := L) (st' := [.ref 66]) rfl (jl_aloadn gL_0) ?_
          refine jx_ar (pc' := 245) (st' := [.ref 66, .ref 66]) rfl rfl rfl rfl ?_
          refine jr_get (pc' := 248) (i := 15) (v := .int (i32 (op1))) rfl rfl (by decide) (rFv_eq (by decide) (show G60 15 = op1 from ((hF66.1 15 rfl).trans (ex_op1)))) rfl ?_
          refine jx_ar (pc' := 249) (st' := [.int (i32 (1)), .int (i32 (op1)), .ref 66]) rfl rfl rfl rfl ?_
          refine jx_sub (pc' := 250) rfl rfl ?_
          refine jr_put (pc' := 253) (i := 15) (z := (op1 - 1)) rfl rfl (by decide) rfl rfl rfl rfl rfl rfl ?_
          have hW84 : Wk (uG G60 15 ((op1 - 1))) A61 := Wk_g hW65 (show (-2147483648 : Int) ≤ (op1 - 1) by omega) (show (op1 - 1) ≤ (2147483647 : Int) by omega)
          have hF85 := Fr_g (z := (op1 - 1)) (i := 15) hF73 (by decide)
          have ec86 : ecn A61 ((uG G60 15 ((op1 - 1))) 31) = ec1 := ec75
          refine jx_ld (pc' := 254) (l' := L) (st' := [.ref 66]) rfl (jl_aloadn gL_0) ?_
          refine jx_vr (pc' := 257) (as := []) (st := []) rfl rfl rfl rfl ⟨rfl, rfl, Nat.le_of_ble_eq_true rfl⟩ rfl rfl (c_endLine (dd := d) (hd := by omega) (hW := hW84)  (ln := ln) (e_ln := show (uG G60 15 ((op1 - 1))) 9 = ln from ((hF66.1 9 rfl).trans (fx_9))) (li := li) (e_li := show (uG G60 15 ((op1 - 1))) 3 = li from ((hF66.1 3 rfl).trans ((hFx.1 3 rfl).trans (e_li)))) (fk := fk2_64) (e_fk := show (uG G60 15 ((op1 - 1))) 16 = fk2_64 from (e69)) (tk0 := tk2_63) (e_tk0 := show (uG G60 15 ((op1 - 1))) 11 = tk2_63 from (e68))    (p_0 := by omega)) (fun o V' hq => ?_)
          obtain ⟨G87, A88, ln2_89, fk2_90, rfl, rfl, hW91, hF92, e93, e94, q95⟩ := hq
          have hF96 := Fr_tr hF85 hF92 (Fr_sub (by decide)) (Fr_sub (by decide))
          have hP97 := Pf_f hP74 hF92 (by decide)
          have ec98 : ecn A88 (G87 31) = ec1 := (ecn_f (hF92.2 15 rfl) (hF92.1 31 rfl)).trans ec86
          have bln2_89 : (0 : Int) ≤ ln2_89 ∧ ln2_89 ≤ 3000 := e93 ▸ hW91.1 9
          have bfk2_90 : (0 : Int) ≤ fk2_90 ∧ fk2_90 ≤ 6 := e94 ▸ hW91.1 16
          refine .inl ⟨rfl, ?_⟩
          rcases q95 with ⟨a99, a100, a101, a102, a103⟩ | ⟨a104, a105⟩
          · have _q : True := trivial
            exfalso
            omega
          · have _q : True := trivial
            refine jx_ld (pc' := 258) (l' := L) (st' := [.int (i32 (n))]) rfl (jl_iloadn gL_2) ?_
            refine jx_rt (v := some (.int (i32 (n)))) rfl rfl rfl rfl rfl rfl ?_
            exact ⟨_, _, _, at2_62, fk2_90, nd1, ln2_89, ec1, rfl, rfl, hW91, hF96, hP97, by omega, ((hF92.1 10 rfl).trans (e67)), (e94), ((hF92.1 31 rfl).trans ((hF66.1 31 rfl).trans (ex_nd1))), (e93), ec98, by omega, by omega, by omega, by omega, by omega, by first | exact Or.inl (⟨by omega, by omega, by omega⟩)⟩
        · have _q : True := trivial
          exfalso
          omega
    · have _q := h6
      exact absurd h6 (by omega)
  · have _q : True := trivial
    exfalso
    omega
set_option maxRecDepth 20000 in
set_option maxHeartbeats 4000000 in
theorem c_readCall_w_at_88 {X : jX} {d : Nat} {Vs : Nat → Prop} {sb pb : Int} {c0 c1 : jC} {G : Nat → Int} {A : Nat → Nat → Int} {T : jH} {s : Int} {ln le at0 fk op0 nd tk0 li kd nu mp pp ec : Int} (hd : 71 ≤ d + 1) (hW : Wk G A) (e_ln : G 9 = ln) (e_le : A 4 (ln).toNat = le) (e_at0 : G 10 = at0) (e_fk : G 16 = fk) (e_op0 : G 15 = op0) (e_nd : G 31 = nd) (e_tk0 : G 11 = tk0) (e_li : G 3 = li) (e_kd : A 7 (s).toNat = kd) (e_nu : A 12 (s).toNat = nu) (e_mp : A 30 (nu).toNat = mp) (e_pp : A 29 (nu).toNat = pp) (e_ec : ecn A (G 31) = ec) (i_SV : SV Vs sb G A) (i_PQ : PQ Vs sb pb G A) (h_s : (-2147483648 : Int) ≤ s ∧ s ≤ 2147483647) (p_0 : 0 ≤ op0 ∧ op0 ≤ 8) (p_1 : fk = 0) (p_2 : nd ≤ 2 * at0 - tz tk0 + 42) (p_3 : at0 ≤ le) (p_4 : ln < li) (p_5 : 0 ≤ s ∧ s ≤ 201) (p_6 : 1 ≤ tk0) (p_7 : kd = 14) (p_8 : SY Vs sb (s)) : ∀ (m : Nat) (L : jL) (Gx : Nat → Int) (Ax : Nat → Nat → Int) (n many last kk at1 tk1 fk1 nd1 op1 ec1 : Int), (many - kk).toNat = m → jGet L 0 = some (.ref 66) → jGet L 1 = some (.int (i32 (s))) → jGet L 2 = some (.int (i32 n)) → jGet L 3 = some (.int (i32 many)) → jGet L 4 = some (.int (i32 last)) → jGet L 5 = some (.int (i32 kk)) → Wk Gx Ax → Fr [9, 10, 11, 12, 13, 14, 15, 16, 17, 18, 31] [15, 16, 17, 18, 19, 20, 21, 22, 24, 28] G A Gx Ax → Pf nd A Ax → Gx 10 = at1 → Gx 11 = tk1 → Gx 16 = fk1 → Gx 31 = nd1 → Gx 15 = op1 → ecn Ax (Gx 31) = ec1 → Gx 9 = ln → ((-2147483648 : Int) ≤ n ∧ n ≤ 2147483647) → ((-2147483648 : Int) ≤ many ∧ many ≤ 2147483647) → ((-2147483648 : Int) ≤ last ∧ last ≤ 2147483647) → ((-2147483648 : Int) ≤ kk ∧ kk ≤ 2147483647) → (fk1 = 0) → (at0 ≤ at1) → (at1 ≤ le) → (nd ≤ n ∧ n ≤ 6998) → (nd ≤ nd1 ∧ n < nd1) → (0 ≤ many ∧ many ≤ 6) → (last = 0 ∨ n < last) → (last < nd1) → (0 ≤ last ∧ last ≤ 6998) → (0 ≤ kk ∧ kk ≤ many) → (op1 = op0 + 1) → (op1 ≤ 8) → (nd1 - nd ≤ (2 * at1 - tz tk1) - (2 * at0 - tz tk0) + 1) → (kk = many ∨ nd1 - nd ≤ (2 * at1 - tz tk1) - (2 * at0 - tz tk0)) → (many = mp) → (ND Ax (n) (25) (nu) (0) (0) (0) (Ax 21 (n).toNat) (0)) → (CA Ax Vs sb (n) (last) (kk) (pp) (n + 1) (nd1)) → (nd1 - nd + 5 * (ec1 - ec) ≤ (2 * at1 - tz tk1) - (2 * at0 - tz tk0) + 1) → (kk = many ∨ nd1 - nd + 5 * (ec1 - ec) ≤ (2 * at1 - tz tk1) - (2 * at0 - tz tk0)) → wj X d jm305 (88, L, [], rV c0 c1 Gx Ax T) (fun o V' => ∃ (G' : Nat → Int) (A' : Nat → Nat → Int) (r : Int) (at2 : Int) (fk2 : Int) (nd2 : Int) (ln2 : Int) (ec2 : Int), V' = rV c0 c1 G' A' T ∧ o = .inl (some (.int (i32 r))) ∧ Wk G' A' ∧ Fr [9, 10, 11, 12, 13, 14, 15, 16, 17, 18, 31] [15, 16, 17, 18, 19, 20, 21, 22, 24, 28] G A G' A' ∧ Pf nd A A' ∧ ((-2147483648 : Int) ≤ r ∧ r ≤ 2147483647) ∧ G' 10 = at2 ∧ G' 16 = fk2 ∧ G' 31 = nd2 ∧ G' 9 = ln2 ∧ ecn A' (G' 31) = ec2 ∧ (at0 ≤ at2) ∧ (at2 ≤ le) ∧ (nd ≤ nd2) ∧ (0 ≤ r) ∧ (r ≤ nd2) ∧ (((1 ≤ fk2) ∧ (ln2 = ln) ∧ (nd2 - nd ≤ 2 * at2 - 2 * at0 + 8)) ∨ ((fk2 = 0) ∧ (ln2 = ln + 1) ∧ (nd2 - nd ≤ 2 * at2 - (2 * at0 - tz tk0) + 0) ∧ (nd ≤ r) ∧ (r < nd2) ∧ (wL A' sb pb Vs (r) (nd) (nd2)) ∧ (NX A' (r)) ∧ (nd2 - nd + 5 * (ec2 - ec) ≤ 2 * at2 - (2 * at0 - tz tk0) + 0)))) := by
  have hF0 : Fr [9, 10, 11, 12, 13, 14, 15, 16, 17, 18, 31] [15, 16, 17, 18, 19, 20, 21, 22, 24, 28] G A G A := Fr_rf
  have hP0 : Pf nd A A := Pf_rf
  have b_ln : (0 : Int) ≤ ln ∧ ln ≤ 3000 := e_ln ▸ hW.1 9
  have b_le : (0 : Int) ≤ le ∧ le ≤ 3000 := e_le ▸ hW.2 4 _
  have b_at0 : (0 : Int) ≤ at0 ∧ at0 ≤ 3002 := e_at0 ▸ hW.1 10
  have b_fk : (0 : Int) ≤ fk ∧ fk ≤ 6 := e_fk ▸ hW.1 16
  have b_op0 : (-2147483648 : Int) ≤ op0 ∧ op0 ≤ 2147483647 := e_op0 ▸ hW.1 15
  have b_nd : (0 : Int) ≤ nd ∧ nd ≤ 6999 := e_nd ▸ hW.1 31
  have z_tk0 := tz_f tk0
  have b_tk0 : (0 : Int) ≤ tk0 ∧ tk0 ≤ 5 := e_tk0 ▸ hW.1 11
  have b_li : (0 : Int) ≤ li ∧ li ≤ 3000 := e_li ▸ hW.1 3
  have b_kd : (0 : Int) ≤ kd ∧ kd ≤ 14 := e_kd ▸ hW.2 7 _
  have b_nu : (0 : Int) ≤ nu ∧ nu ≤ 24 := e_nu ▸ hW.2 12 _
  have b_mp : (0 : Int) ≤ mp ∧ mp ≤ 6 := e_mp ▸ hW.2 30 _
  have b_pp : (0 : Int) ≤ pp ∧ pp ≤ 202 := e_pp ▸ hW.2 29 _
  have pq := PQ_at i_PQ p_8 (e_kd.trans (by omega)) e_nu e_mp e_pp
  intro m
  induction m using Nat.strongRecOn with
  | ind m ih88 =>
    intro L Gx Ax n many last kk at1 tk1 fk1 nd1 op1 ec1 hm gL_0 gL_1 gL_2 gL_3 gL_4 gL_5 hWx hFx hPx ex_at1 ex_tk1 ex_fk1 ex_nd1 ex_op1 ex_ec1 fx_9 rx_n rx_many rx_last rx_kk iv_0 iv_1 iv_2 iv_3 iv_4 iv_5 iv_6 iv_7 iv_8 iv_9 iv_10 iv_11 iv_12 iv_13 iv_14 iv_15 iv_16 iv_17 iv_18
    have b_at1 : (0 : Int) ≤ at1 ∧ at1 ≤ 3002 := ex_at1 ▸ hWx.1 10
    have z_tk1 := tz_f tk1
    have b_tk1 : (0 : Int) ≤ tk1 ∧ tk1 ≤ 5 := ex_tk1 ▸ hWx.1 11
    have b_fk1 : (0 : Int) ≤ fk1 ∧ fk1 ≤ 6 := ex_fk1 ▸ hWx.1 16
    have b_nd1 : (0 : Int) ≤ nd1 ∧ nd1 ≤ 6999 := ex_nd1 ▸ hWx.1 31
    have b_op1 : (-2147483648 : Int) ≤ op1 ∧ op1 ≤ 2147483647 := ex_op1 ▸ hWx.1 15
    refine jx_ld (pc' := 89) (l' := L) (st' := [.ref 66]) rfl (jl_aloadn gL_0) ?_
    refine jx_vr (pc' := 92) (as := []) (st := []) rfl rfl rfl rfl ⟨rfl, rfl, Nat.le_of_ble_eq_true rfl⟩ rfl rfl (c_bad (dd := d) (hd := by omega) (hW := hWx)  (fk := fk1) (e_fk := show Gx 16 = fk1 from (ex_fk1))    ) (fun o V' hq => ?_)
    obtain ⟨r106, rfl, rfl, b107, q108⟩ := hq
    refine .inr ⟨_, rfl, ?_⟩
    rcases q108 with ⟨rfl, a109⟩ | ⟨rfl, a110⟩
    · have _q : True := trivial
      exfalso
      omega
    · have _q : True := trivial
      refine jx_if_ne (pc' := 95) (tg := 233) rfl rfl rfl (by decide) (by decide) (fun h111 => ?_) (fun h111 => ?_)
      · have _q := h111
        exact absurd h111 (by omega)
      · have _q := h111
        refine jx_ld (pc' := 97) (l' := L) (st' := [.int (i32 (kk))]) rfl (jl_iload gL_5) ?_
        refine jx_ld (pc' := 98) (l' := L) (st' := [.int (i32 (many)), .int (i32 (kk))]) rfl (jl_iloadn gL_3) ?_
        refine jx_icmp_ge (pc' := 101) (tg := 233) rfl rfl rfl (Int.le_trans (by decide : (-2147483648 : Int) ≤ -2147483648) rx_kk.1) (Int.le_trans rx_kk.2 (by decide : (2147483647 : Int) ≤ 2147483647)) (Int.le_trans (by decide : (-2147483648 : Int) ≤ -2147483648) rx_many.1) (Int.le_trans rx_many.2 (by decide : (2147483647 : Int) ≤ 2147483647)) (fun h112 => ?_) (fun h112 => ?_)
        · have _q := h112
          refine jx_ld (pc' := 234) (l' := L) (st' := [.ref 66]) rfl (jl_aloadn gL_0) ?_
          refine jx_ld (pc' := 235) (l' := L) (st' := [.ref 66, .ref 66]) rfl (jl_aloadn gL_0) ?_
          refine jx_ar (pc' := 237) (st' := [.int (i32 (41)), .ref 66, .ref 66]) rfl rfl rfl rfl ?_
          have b113 : (-2147483648 : Int) ≤ Gx 13 ∧ Gx 13 ≤ 2147483647 := hWx.1 13
          refine jx_vr (pc' := 240) (as := [.int (i32 (41))]) (st := [.ref 66]) rfl rfl rfl rfl ⟨rfl, rfl, Nat.le_of_ble_eq_true rfl⟩ rfl rfl (c_is (dd := d) (hd := by omega) (hW := hWx) (k := 41) (tk := tk1) (e_tk := show Gx 11 = tk1 from (ex_tk1)) (tn := Gx 13) (e_tn := show Gx 13 = Gx 13 from rfl)  (h_k := ⟨(by decide), (by decide)⟩)  ) (fun o V' hq => ?_)
          obtain ⟨r114, rfl, rfl, b115, q116⟩ := hq
          refine .inr ⟨_, rfl, ?_⟩
          rcases q116 with ⟨rfl, a117, a118, a119⟩ | rfl
          · have _q : True := trivial
            refine jx_vr (pc' := 243) (as := [.int (i32 (1))]) (st := []) rfl rfl rfl rfl ⟨rfl, rfl, Nat.le_of_ble_eq_true rfl⟩ rfl rfl (c_need (dd := d) (hd := by omega) (hW := hWx) (g := 1) (ln := ln) (e_ln := show Gx 9 = ln from (fx_9)) (le := le) (e_le := show Ax 4 (ln).toNat = le from (congrFun (hFx.2 4 rfl) _).trans (e_le)) (at0 := at1) (e_at0 := show Gx 10 = at1 from (ex_at1)) (fk := fk1) (e_fk := show Gx 16 = fk1 from (ex_fk1)) (tk0 := tk1) (e_tk0 := show Gx 11 = tk1 from (ex_tk1))  (h_g := ⟨(by decide), (by decide)⟩)  (p_0 := by omega)) (fun o V' hq => ?_)
            obtain ⟨G120, A121, at2_122, tk2_123, fk2_124, rfl, rfl, hW125, hF126, e127, e128, e129, p130, p131, q132⟩ := hq
            have hF133 := Fr_tr hFx hF126 (Fr_sub (by decide)) (Fr_sub (by decide))
            have hP134 := Pf_f hPx hF126 (by decide)
            have sf135 : ND A121 (n) (25) (nu) (0) (0) (0) (Ax 21 (n).toNat) (0) := ND_ag (by omega) (Ag_fr hF126 (by decide)) iv_15
            have sf136 : CA A121 Vs sb (n) (last) (kk) (pp) (n + 1) (nd1) := CA_ag (by omega) (Sg_fr hF126 (by decide)) (Ag_fr hF126 (by decide)) (congrFun (hF126.2 21 rfl) _) iv_16
            have ec137 : ecn A121 (G120 31) = ec1 := (ecn_f (hF126.2 15 rfl) (hF126.1 31 rfl)).trans ex_ec1
            have bat2_122 : (0 : Int) ≤ at2_122 ∧ at2_122 ≤ 3002 := e127 ▸ hW125.1 10
            have ztk2_123 := tz_b tk2_123
            have btk2_123 : (0 : Int) ≤ tk2_123 ∧ tk2_123 ≤ 5 := e128 ▸ hW125.1 11
            have bfk2_124 : (0 : Int) ≤ fk2_124 ∧ fk2_124 ≤ 6 := e129 ▸ hW125.1 16
            refine .inl ⟨rfl, ?_⟩
            rcases q132 with ⟨a138, a139, a140, a141⟩ | ⟨a142, a143, a144, a145⟩
            · have _q : True := trivial
              refine jx_ld (pc' := 244) (l' := L) (st' := [.ref 66]) rfl (jl_aloadn gL_0) ?_
              refine jx_ar (pc' := 245) (st' := [.ref 66, .ref 66]) rfl rfl rfl rfl ?_
              refine jr_get (pc' := 248) (i := 15) (v := .int (i32 (op1))) rfl rfl (by decide) (rFv_eq (by decide) (show G120 15 = op1 from ((hF126.1 15 rfl).trans (ex_op1)))) rfl ?_
              refine jx_ar (pc' := 249) (st' := [.int (i32 (1)), .int (i32 (op1)), .ref 66]) rfl rfl rfl rfl ?_
              refine jx_sub (pc' := 250) rfl rfl ?_
              refine jr_put (pc' := 253) (i := 15) (z := (op1 - 1)) rfl rfl (by decide) rfl rfl rfl rfl rfl rfl ?_
              have hW146 : Wk (uG G120 15 ((op1 - 1))) A121 := Wk_g hW125 (show (-2147483648 : Int) ≤ (op1 - 1) by omega) (show (op1 - 1) ≤ (2147483647 : Int) by omega)
              have hF147 := Fr_g (z := (op1 - 1)) (i := 15) hF133 (by decide)
              have ec148 : ecn A121 ((uG G120 15 ((op1 - 1))) 31) = ec1 := ec137
              refine jx_ld (pc' := 254) (l' := L) (st' := [.ref 66]) rfl (jl_aloadn gL_0) ?_
              refine jx_vr (pc' := 257) (as := []) (st := []) rfl rfl rfl rfl ⟨rfl, rfl, Nat.le_of_ble_eq_true rfl⟩ rfl rfl (c_endLine (dd := d) (hd := by omega) (hW := hW146)  (ln := ln) (e_ln := show (uG G120 15 ((op1 - 1))) 9 = ln from ((hF126.1 9 rfl).trans (fx_9))) (li := li) (e_li := show (uG G120 15 ((op1 - 1))) 3 = li from ((hF126.1 3 rfl).trans ((hFx.1 3 rfl).trans (e_li)))) (fk := fk2_124) (e_fk := show (uG G120 15 ((op1 - 1))) 16 = fk2_124 from (e129)) (tk0 := tk2_123) (e_tk0 := show (uG G120 15 ((op1 - 1))) 11 = tk2_123 from (e128))    (p_0 := by omega)) (fun o V' hq => ?_)
              obtain ⟨G149, A150, ln2_151, fk2_152, rfl, rfl, hW153, hF154, e155, e156, q157⟩ := hq
              have hF158 := Fr_tr hF147 hF154 (Fr_sub (by decide)) (Fr_sub (by decide))
              have hP159 := Pf_f hP134 hF154 (by decide)
              have sf160 : ND A150 (n) (25) (nu) (0) (0) (0) (Ax 21 (n).toNat) (0) := ND_ag (by omega) (Ag_fr hF154 (by decide)) sf135
              have sf161 : CA A150 Vs sb (n) (last) (kk) (pp) (n + 1) (nd1) := CA_ag (by omega) (Sg_fr hF154 (by decide)) (Ag_fr hF154 (by decide)) (congrFun (hF154.2 21 rfl) _) sf136
              have ec162 : ecn A150 (G149 31) = ec1 := (ecn_f (hF154.2 15 rfl) (hF154.1 31 rfl)).trans ec148
              have bln2_151 : (0 : Int) ≤ ln2_151 ∧ ln2_151 ≤ 3000 := e155 ▸ hW153.1 9
              have bfk2_152 : (0 : Int) ≤ fk2_152 ∧ fk2_152 ≤ 6 := e156 ▸ hW153.1 16
              refine .inl ⟨rfl, ?_⟩
              rcases q157 with ⟨a163, a164, a165, a166, a167⟩ | ⟨a168, a169⟩
              · have _q : True := trivial
                exfalso
                omega
              · have _q : True := trivial
                refine jx_ld (pc' := 258) (l' := L) (st' := [.int (i32 (n))]) rfl (jl_iloadn gL_2) ?_
                refine jx_rt (v := some (.int (i32 (n)))) rfl rfl rfl rfl rfl rfl ?_
                exact ⟨_, _, _, at2_122, fk2_152, nd1, ln2_151, ec1, rfl, rfl, hW153, hF158, hP159, by omega, ((hF154.1 10 rfl).trans (e127)), (e156), ((hF154.1 31 rfl).trans ((hF126.1 31 rfl).trans (ex_nd1))), (e155), ec162, by omega, by omega, by omega, by omega, by omega, by first | exact Or.inl (⟨by omega, by omega, by omega⟩)⟩
            · have _q : True := trivial
              have pz170 : at1 + tz tk2_123 ≤ at2_122 := by omega
              refine jx_ld (pc' := 244) (l' := L) (st' := [.ref 66]) rfl (jl_aloadn gL_0) ?_
              refine jx_ar (pc' := 245) (st' := [.ref 66, .ref 66]) rfl rfl rfl rfl ?_
              refine jr_get (pc' := 248) (i := 15) (v := .int (i32 (op1))) rfl rfl (by decide) (rFv_eq (by decide) (show G120 15 = op1 from ((hF126.1 15 rfl).trans (ex_op1)))) rfl ?_
              refine jx_ar (pc' := 249) (st' := [.int (i32 (1)), .int (i32 (op1)), .ref 66]) rfl rfl rfl rfl ?_
              refine jx_sub (pc' := 250) rfl rfl ?_
              refine jr_put (pc' := 253) (i := 15) (z := (op1 - 1)) rfl rfl (by decide) rfl rfl rfl rfl rfl rfl ?_
              have hW171 : Wk (uG G120 15 ((op1 - 1))) A121 := Wk_g hW125 (show (-2147483648 : Int) ≤ (op1 - 1) by omega) (show (op1 - 1) ≤ (2147483647 : Int) by omega)
              have hF172 := Fr_g (z := (op1 - 1)) (i := 15) hF133 (by decide)
              have ec173 : ecn A121 ((uG G120 15 ((op1 - 1))) 31) = ec1 := ec137
              refine jx_ld (pc' := 254) (l' := L) (st' := [.ref 66]) rfl (jl_aloadn gL_0) ?_
              refine jx_vr (pc' := 257) (as := []) (st := []) rfl rfl rfl rfl ⟨rfl, rfl, Nat.le_of_ble_eq_true rfl⟩ rfl rfl (c_endLine (dd := d) (hd := by omega) (hW := hW171)  (ln := ln) (e_ln := show (uG G120 15 ((op1 - 1))) 9 = ln from ((hF126.1 9 rfl).trans (fx_9))) (li := li) (e_li := show (uG G120 15 ((op1 - 1))) 3 = li from ((hF126.1 3 rfl).trans ((hFx.1 3 rfl).trans (e_li)))) (fk := fk2_124) (e_fk := show (uG G120 15 ((op1 - 1))) 16 = fk2_124 from (e129)) (tk0 := tk2_123) (e_tk0 := show (uG G120 15 ((op1 - 1))) 11 = tk2_123 from (e128))    (p_0 := by omega)) (fun o V' hq => ?_)
              obtain ⟨G174, A175, ln2_176, fk2_177, rfl, rfl, hW178, hF179, e180, e181, q182⟩ := hq
              have hF183 := Fr_tr hF172 hF179 (Fr_sub (by decide)) (Fr_sub (by decide))
              have hP184 := Pf_f hP134 hF179 (by decide)
              have sf185 : ND A175 (n) (25) (nu) (0) (0) (0) (Ax 21 (n).toNat) (0) := ND_ag (by omega) (Ag_fr hF179 (by decide)) sf135
              have sf186 : CA A175 Vs sb (n) (last) (kk) (pp) (n + 1) (nd1) := CA_ag (by omega) (Sg_fr hF179 (by decide)) (Ag_fr hF179 (by decide)) (congrFun (hF179.2 21 rfl) _) sf136
              have ec187 : ecn A175 (G174 31) = ec1 := (ecn_f (hF179.2 15 rfl) (hF179.1 31 rfl)).trans ec173
              have bln2_176 : (0 : Int) ≤ ln2_176 ∧ ln2_176 ≤ 3000 := e180 ▸ hW178.1 9
              have bfk2_177 : (0 : Int) ≤ fk2_177 ∧ fk2_177 ≤ 6 := e181 ▸ hW178.1 16
              refine .inl ⟨rfl, ?_⟩
              rcases q182 with ⟨a188, a189, a190, a191, a192⟩ | ⟨a193, a194⟩
              · have _q : True := trivial
                refine jx_ld (pc' := 258) (l' := L) (st' := [.int (i32 (n))]) rfl (jl_iloadn gL_2) ?_
                refine jx_rt (v := some (.int (i32 (n)))) rfl rfl rfl rfl rfl rfl ?_
                exact ⟨_, _, _, at2_122, fk2_177, nd1, ln2_176, ec1, rfl, rfl, hW178, hF183, hP184, by omega, ((hF179.1 10 rfl).trans (e127)), (e181), ((hF179.1 31 rfl).trans ((hF126.1 31 rfl).trans (ex_nd1))), (e180), ec187, by omega, by omega, by omega, by omega, by omega, by first | exact Or.inr ((⟨by omega, by omega, by omega, by omega, by omega, (wL_call (last := last) sf185 (by omega) (by omega) (by omega) ((show A175 30 (nu).toNat = mp from (congrFun ((hF179.2 30 rfl).trans ((hF126.2 30 rfl).trans (hFx.2 30 rfl))) _).trans (e_mp)).trans (by omega : mp = kk)) ((show A175 29 (nu).toNat = pp from (congrFun ((hF179.2 29 rfl).trans ((hF126.2 29 rfl).trans (hFx.2 29 rfl))) _).trans (e_pp)).trans (by omega : pp = pp)) (CA_eq sf186 (by omega) (by omega) (by omega) (by omega) (by omega))), (NX_nd sf185), by omega⟩))⟩
              · have _q : True := trivial
                refine jx_ld (pc' := 258) (l' := L) (st' := [.int (i32 (n))]) rfl (jl_iloadn gL_2) ?_
                refine jx_rt (v := some (.int (i32 (n)))) rfl rfl rfl rfl rfl rfl ?_
                exact ⟨_, _, _, at2_122, fk2_177, nd1, ln2_176, ec1, rfl, rfl, hW178, hF183, hP184, by omega, ((hF179.1 10 rfl).trans (e127)), (e181), ((hF179.1 31 rfl).trans ((hF126.1 31 rfl).trans (ex_nd1))), (e180), ec187, by omega, by omega, by omega, by omega, by omega, by first | exact Or.inl (⟨by omega, by omega, by omega⟩)⟩
          · have _q : True := trivial
            refine jx_vr (pc' := 243) (as := [.int (i32 (0))]) (st := []) rfl rfl rfl rfl ⟨rfl, rfl, Nat.le_of_ble_eq_true rfl⟩ rfl rfl (c_need (dd := d) (hd := by omega) (hW := hWx) (g := 0) (ln := ln) (e_ln := show Gx 9 = ln from (fx_9)) (le := le) (e_le := show Ax 4 (ln).toNat = le from (congrFun (hFx.2 4 rfl) _).trans (e_le)) (at0 := at1) (e_at0 := show Gx 10 = at1 from (ex_at1)) (fk := fk1) (e_fk := show Gx 16 = fk1 from (ex_fk1)) (tk0 := tk1) (e_tk0 := show Gx 11 = tk1 from (ex_tk1))  (h_g := ⟨(by decide), (by decide)⟩)  (p_0 := by omega)) (fun o V' hq => ?_)
            obtain ⟨G195, A196, at2_197, tk2_198, fk2_199, rfl, rfl, hW200, hF201, e202, e203, e204, p205, p206, q207⟩ := hq
            have hF208 := Fr_tr hFx hF201 (Fr_sub (by decide)) (Fr_sub (by decide))
            have hP209 := Pf_f hPx hF201 (by decide)
            have sf210 : ND A196 (n) (25) (nu) (0) (0) (0) (Ax 21 (n).toNat) (0) := ND_ag (by omega) (Ag_fr hF201 (by decide)) iv_15
            have sf211 : CA A196 Vs sb (n) (last) (kk) (pp) (n + 1) (nd1) := CA_ag (by omega) (Sg_fr hF201 (by decide)) (Ag_fr hF201 (by decide)) (congrFun (hF201.2 21 rfl) _) iv_16
            have ec212 : ecn A196 (G195 31) = ec1 := (ecn_f (hF201.2 15 rfl) (hF201.1 31 rfl)).trans ex_ec1
            have bat2_197 : (0 : Int) ≤ at2_197 ∧ at2_197 ≤ 3002 := e202 ▸ hW200.1 10
            have ztk2_198 := tz_b tk2_198
            have btk2_198 : (0 : Int) ≤ tk2_198 ∧ tk2_198 ≤ 5 := e203 ▸ hW200.1 11
            have bfk2_199 : (0 : Int) ≤ fk2_199 ∧ fk2_199 ≤ 6 := e204 ▸ hW200.1 16
            refine .inl ⟨rfl, ?_⟩
            rcases q207 with ⟨a213, a214, a215, a216⟩ | ⟨a217, a218, a219, a220⟩
            · have _q : True := trivial
              refine jx_ld (pc' := 244) (l' := L) (st' := [.ref 66]) rfl (jl_aloadn gL_0) ?_
              refine jx_ar (pc' := 245) (st' := [.ref 66, .ref 66]) rfl rfl rfl rfl ?_
              refine jr_get (pc' := 248) (i := 15) (v := .int (i32 (op1))) rfl rfl (by decide) (rFv_eq (by decide) (show G195 15 = op1 from ((hF201.1 15 rfl).trans (ex_op1)))) rfl ?_
              refine jx_ar (pc' := 249) (st' := [.int (i32 (1)), .int (i32 (op1)), .ref 66]) rfl rfl rfl rfl ?_
              refine jx_sub (pc' := 250) rfl rfl ?_
              refine jr_put (pc' := 253) (i := 15) (z := (op1 - 1)) rfl rfl (by decide) rfl rfl rfl rfl rfl rfl ?_
              have hW221 : Wk (uG G195 15 ((op1 - 1))) A196 := Wk_g hW200 (show (-2147483648 : Int) ≤ (op1 - 1) by omega) (show (op1 - 1) ≤ (2147483647 : Int) by omega)
              have hF222 := Fr_g (z := (op1 - 1)) (i := 15) hF208 (by decide)
              have ec223 : ecn A196 ((uG G195 15 ((op1 - 1))) 31) = ec1 := ec212
              refine jx_ld (pc' := 254) (l' := L) (st' := [.ref 66]) rfl (jl_aloadn gL_0) ?_
              refine jx_vr (pc' := 257) (as := []) (st := []) rfl rfl rfl rfl ⟨rfl, rfl, Nat.le_of_ble_eq_true rfl⟩ rfl rfl (c_endLine (dd := d) (hd := by omega) (hW := hW221)  (ln := ln) (e_ln := show (uG G195 15 ((op1 - 1))) 9 = ln from ((hF201.1 9 rfl).trans (fx_9))) (li := li) (e_li := show (uG G195 15 ((op1 - 1))) 3 = li from ((hF201.1 3 rfl).trans ((hFx.1 3 rfl).trans (e_li)))) (fk := fk2_199) (e_fk := show (uG G195 15 ((op1 - 1))) 16 = fk2_199 from (e204)) (tk0 := tk2_198) (e_tk0 := show (uG G195 15 ((op1 - 1))) 11 = tk2_198 from (e203))    (p_0 := by omega)) (fun o V' hq => ?_)
              obtain ⟨G224, A225, ln2_226, fk2_227, rfl, rfl, hW228, hF229, e230, e231, q232⟩ := hq
              have hF233 := Fr_tr hF222 hF229 (Fr_sub (by decide)) (Fr_sub (by decide))
              have hP234 := Pf_f hP209 hF229 (by decide)
              have sf235 : ND A225 (n) (25) (nu) (0) (0) (0) (Ax 21 (n).toNat) (0) := ND_ag (by omega) (Ag_fr hF229 (by decide)) sf210
              have sf236 : CA A225 Vs sb (n) (last) (kk) (pp) (n + 1) (nd1) := CA_ag (by omega) (Sg_fr hF229 (by decide)) (Ag_fr hF229 (by decide)) (congrFun (hF229.2 21 rfl) _) sf211
              have ec237 : ecn A225 (G224 31) = ec1 := (ecn_f (hF229.2 15 rfl) (hF229.1 31 rfl)).trans ec223
              have bln2_226 : (0 : Int) ≤ ln2_226 ∧ ln2_226 ≤ 3000 := e230 ▸ hW228.1 9
              have bfk2_227 : (0 : Int) ≤ fk2_227 ∧ fk2_227 ≤ 6 := e231 ▸ hW228.1 16
              refine .inl ⟨rfl, ?_⟩
              rcases q232 with ⟨a238, a239, a240, a241, a242⟩ | ⟨a243, a244⟩
              · have _q : True := trivial
                exfalso
                omega
              · have _q : True := trivial
                refine jx_ld (pc' := 258) (l' := L) (st' := [.int (i32 (n))]) rfl (jl_iloadn gL_2) ?_
                refine jx_rt (v := some (.int (i32 (n)))) rfl rfl rfl rfl rfl rfl ?_
                exact ⟨_, _, _, at2_197, fk2_227, nd1, ln2_226, ec1, rfl, rfl, hW228, hF233, hP234, by omega, ((hF229.1 10 rfl).trans (e202)), (e231), ((hF229.1 31 rfl).trans ((hF201.1 31 rfl).trans (ex_nd1))), (e230), ec237, by omega, by omega, by omega, by omega, by omega, by first | exact Or.inl (⟨by omega, by omega, by omega⟩)⟩
            · have _q : True := trivial
              exfalso
              omega
        · have _q := h112
          have pk := PQ_k i_PQ p_8 (e_kd.trans (by omega)) e_nu e_mp e_pp (show 0 ≤ kk by omega) (by omega)
          refine jx_ld (pc' := 102) (l' := L) (st' := [.ref 66]) rfl (jl_aloadn gL_0) ?_
          refine jx_ld (pc' := 103) (l' := L) (st' := [.ref 66, .ref 66]) rfl (jl_aloadn gL_0) ?_
          refine jr_get (pc' := 106) (i := 47) (v := .ref 96) rfl rfl (by decide) rfl rfl ?_
          refine jx_ld (pc' := 107) (l' := L) (st' := [.ref 66, .ref 96, .ref 66]) rfl (jl_aloadn gL_0) ?_
          refine jr_get (pc' := 110) (i := 26) (v := .ref 79) rfl rfl (by decide) rfl rfl ?_
          refine jx_ld (pc' := 111) (l' := L) (st' := [.int (i32 (s)), .ref 79, .ref 96, .ref 66]) rfl (jl_iloadn gL_1) ?_
          refine jr_ldv (pc' := 112) (i := 12) (m := 260) (z := s) (y := nu) rfl (by decide) rfl (by decide) (by omega) (by omega) rfl (show Ax 12 (s).toNat = nu from (congrFun (hFx.2 12 rfl) _).trans (e_nu)) ?_
          refine jr_ldv (pc' := 113) (i := 29) (m := 25) (z := nu) (y := pp) rfl (by decide) rfl (by decide) (Int.le_trans (by decide : (0 : Int) ≤ 0) b_nu.1) (Int.lt_of_le_of_lt b_nu.2 (by decide : (24 : Int) < ((25 : Nat) : Int))) rfl (show Ax 29 (nu).toNat = pp from (congrFun (hFx.2 29 rfl) _).trans (e_pp)) ?_
          refine jx_ld (pc' := 115) (l' := L) (st' := [.int (i32 (kk)), .int (i32 (pp)), .ref 66]) rfl (jl_iload gL_5) ?_
          refine jx_add (pc' := 116) rfl rfl ?_
          have b245 : (0 : Int) ≤ A 7 ((pp + kk)).toNat ∧ A 7 ((pp + kk)).toNat ≤ 14 := hW.2 7 _
          have b246 : (-2147483648 : Int) ≤ A 8 ((pp + kk)).toNat ∧ A 8 ((pp + kk)).toNat ≤ 2147483647 := hW.2 8 _
          refine jx_vr (pc' := 119) (as := [.int (i32 ((pp + kk)))]) (st := []) rfl rfl rfl rfl ⟨rfl, rfl, Nat.le_of_ble_eq_true rfl⟩ rfl rfl (c_readArgument_w (dd := d) (hd := by omega) (hW := hWx) (pa := (pp + kk)) (ln := ln) (e_ln := show Gx 9 = ln from (fx_9)) (le := le) (e_le := show Ax 4 (ln).toNat = le from (congrFun (hFx.2 4 rfl) _).trans (e_le)) (at0 := at1) (e_at0 := show Gx 10 = at1 from (ex_at1)) (fk := fk1) (e_fk := show Gx 16 = fk1 from (ex_fk1)) (op0 := op1) (e_op0 := show Gx 15 = op1 from (ex_op1)) (nd := nd1) (e_nd := show Gx 31 = nd1 from (ex_nd1)) (tk0 := tk1) (e_tk0 := show Gx 11 = tk1 from (ex_tk1)) (kp := A 7 ((pp + kk)).toNat) (e_kp := show Ax 7 ((pp + kk)).toNat = A 7 ((pp + kk)).toNat from (congrFun (hFx.2 7 rfl) _)) (zp := A 8 ((pp + kk)).toNat) (e_zp := show Ax 8 ((pp + kk)).toNat = A 8 ((pp + kk)).toNat from (congrFun (hFx.2 8 rfl) _)) (ec := ec1) (e_ec := show ecn Ax (Gx 31) = ec1 from ex_ec1) (i_SV := (SV_ext ((hFx.1 29 rfl)) ((hFx.2 14 rfl)) i_SV)) (h_pa := ⟨(by omega), (by omega)⟩)  (p_0 := by omega) (p_1 := by omega) (p_2 := by omega) (p_3 := by omega) (p_4 := by omega) (p_5 := by omega) (p_6 := by omega) (p_7 := by omega) (p_8 := by omega) (p_9 := by omega)) (fun o V' hq => ?_)
          obtain ⟨G247, A248, r249, at2_250, fk2_251, op2_252, nd2_253, tk2_254, ec2_255, rfl, rfl, hW256, hF257, hQ258, b259, e260, e261, e262, e263, e264, e265, p266, p267, p268, p269, p270, p271, q272⟩ := hq
          have hF273 := Fr_tr hFx hF257 (Fr_sub (by decide)) (Fr_sub (by decide))
          have hP274 := Pf_tr hPx hQ258 (by omega)
          have sf275 : ND A248 (n) (25) (nu) (0) (0) (0) (Ax 21 (n).toNat) (0) := ND_ag (by omega) (Ag_pf hQ258 (by omega)) iv_15
          have sf276 : CA A248 Vs sb (n) (last) (kk) (pp) (n + 1) (nd1) := CA_ag (by omega) (Sg_fr hF257 (by decide)) (Ag_pf hQ258 (by omega)) (hQ258 21 _ rfl (by omega)) iv_16
          have bat2_250 : (0 : Int) ≤ at2_250 ∧ at2_250 ≤ 3002 := e260 ▸ hW256.1 10
          have bfk2_251 : (0 : Int) ≤ fk2_251 ∧ fk2_251 ≤ 6 := e261 ▸ hW256.1 16
          have bop2_252 : (-2147483648 : Int) ≤ op2_252 ∧ op2_252 ≤ 2147483647 := e262 ▸ hW256.1 15
          have bnd2_253 : (0 : Int) ≤ nd2_253 ∧ nd2_253 ≤ 6999 := e263 ▸ hW256.1 31
          have ztk2_254 := tz_b tk2_254
          have btk2_254 : (0 : Int) ≤ tk2_254 ∧ tk2_254 ≤ 5 := e264 ▸ hW256.1 11
          refine .inr ⟨_, rfl, ?_⟩
          rcases q272 with ⟨a277, a278, a279⟩ | ⟨a280, a281, a282, a283, a284, a285, a286, a287⟩
          · have _q : True := trivial
            refine jx_ld (pc' := 121) (l' := jSto1 L 6 (.int (i32 (r249)))) (st' := []) rfl rfl ?_
            obtain ⟨L288, eL288⟩ : ∃ q, q = jSto1 L 6 (.int (i32 (r249))) := ⟨_, rfl⟩
            rw [← eL288]
            have gL288_0 : jGet L288 0 = some (.ref 66) := eL288 ▸ jg_ne (by decide) gL_0 rfl
            have gL288_1 : jGet L288 1 = some (.int (i32 (s))) := eL288 ▸ jg_ne (by decide) gL_1 rfl
            have gL288_2 : jGet L288 2 = some (.int (i32 (n))) := eL288 ▸ jg_ne (by decide) gL_2 rfl
            have gL288_3 : jGet L288 3 = some (.int (i32 (many))) := eL288 ▸ jg_ne (by decide) gL_3 rfl
            have gL288_4 : jGet L288 4 = some (.int (i32 (last))) := eL288 ▸ jg_ne (by decide) gL_4 rfl
            have gL288_5 : jGet L288 5 = some (.int (i32 (kk))) := eL288 ▸ jg_ne (by decide) gL_5 rfl
            have gL288_6 : jGet L288 6 = some (.int (i32 (r249))) := eL288 ▸ jg_eq
            refine jx_ld (pc' := 122) (l' := L288) (st' := [.ref 66]) rfl (jl_aloadn gL288_0) ?_
            refine jx_vr (pc' := 125) (as := []) (st := []) rfl rfl rfl rfl ⟨rfl, rfl, Nat.le_of_ble_eq_true rfl⟩ rfl rfl (c_bad (dd := d) (hd := by omega) (hW := hW256)  (fk := fk2_251) (e_fk := show G247 16 = fk2_251 from (e261))    ) (fun o V' hq => ?_)
            obtain ⟨r289, rfl, rfl, b290, q291⟩ := hq
            refine .inr ⟨_, rfl, ?_⟩
            rcases q291 with ⟨rfl, a292⟩ | ⟨rfl, a293⟩
            · have _q : True := trivial
              refine jx_if_eq (pc' := 128) (tg := 130) rfl rfl rfl (by decide) (by decide) (fun h294 => ?_) (fun h294 => ?_)
              · have _q := h294
                exact absurd h294 (by omega)
              · have _q := h294
                refine jx_ar (pc' := 129) (st' := [.int (i32 (0))]) rfl rfl rfl rfl ?_
                refine jx_rt (v := some (.int (i32 (0)))) rfl rfl rfl rfl rfl rfl ?_
                exact ⟨_, _, _, at2_250, fk2_251, nd2_253, ln, ec2_255, rfl, rfl, hW256, hF273, hP274, by omega, (e260), (e261), (e263), ((hF257.1 9 rfl).trans (fx_9)), e265, by omega, by omega, by omega, by omega, by omega, by first | exact Or.inl (⟨by omega, by omega, by omega⟩)⟩
            · have _q : True := trivial
              exfalso
              omega
          · have _q : True := trivial
            refine jx_ld (pc' := 121) (l' := jSto1 L 6 (.int (i32 (r249)))) (st' := []) rfl rfl ?_
            obtain ⟨L295, eL295⟩ : ∃ q, q = jSto1 L 6 (.int (i32 (r249))) := ⟨_, rfl⟩
            rw [← eL295]
            have gL295_0 : jGet L295 0 = some (.ref 66) := eL295 ▸ jg_ne (by decide) gL_0 rfl
            have gL295_1 : jGet L295 1 = some (.int (i32 (s))) := eL295 ▸ jg_ne (by decide) gL_1 rfl
            have gL295_2 : jGet L295 2 = some (.int (i32 (n))) := eL295 ▸ jg_ne (by decide) gL_2 rfl
            have gL295_3 : jGet L295 3 = some (.int (i32 (many))) := eL295 ▸ jg_ne (by decide) gL_3 rfl
            have gL295_4 : jGet L295 4 = some (.int (i32 (last))) := eL295 ▸ jg_ne (by decide) gL_4 rfl
            have gL295_5 : jGet L295 5 = some (.int (i32 (kk))) := eL295 ▸ jg_ne (by decide) gL_5 rfl
            have gL295_6 : jGet L295 6 = some (.int (i32 (r249))) := eL295 ▸ jg_eq
            refine jx_ld (pc' := 122) (l' := L295) (st' := [.ref 66]) rfl (jl_aloadn gL295_0) ?_
            refine jx_vr (pc' := 125) (as := []) (st := []) rfl rfl rfl rfl ⟨rfl, rfl, Nat.le_of_ble_eq_true rfl⟩ rfl rfl (c_bad (dd := d) (hd := by omega) (hW := hW256)  (fk := fk2_251) (e_fk := show G247 16 = fk2_251 from (e261))    ) (fun o V' hq => ?_)
            obtain ⟨r296, rfl, rfl, b297, q298⟩ := hq
            refine .inr ⟨_, rfl, ?_⟩
            rcases q298 with ⟨rfl, a299⟩ | ⟨rfl, a300⟩
            · have _q : True := trivial
              exfalso
              omega
            · have _q : True := trivial
              refine jx_if_eq (pc' := 128) (tg := 130) rfl rfl rfl (by decide) (by decide) (fun h301 => ?_) (fun h301 => ?_)
              · have _q := h301
                refine jx_ld (pc' := 132) (l' := L295) (st' := [.int (i32 (last))]) rfl (jl_iload gL295_4) ?_
                refine jx_if_ne (pc' := 135) (tg := 146) rfl rfl rfl (Int.le_trans (by decide : (-2147483648 : Int) ≤ -2147483648) rx_last.1) (Int.le_trans rx_last.2 (by decide : (2147483647 : Int) ≤ 2147483647)) (fun h302 => ?_) (fun h302 => ?_)
                · have _q := h302
                  refine jx_ld (pc' := 147) (l' := L295) (st' := [.ref 66]) rfl (jl_aloadn gL295_0) ?_
                  refine jr_get (pc' := 150) (i := 39) (v := .ref 89) rfl rfl (by decide) rfl rfl ?_
                  refine jx_ld (pc' := 152) (l' := L295) (st' := [.int (i32 (last)), .ref 89]) rfl (jl_iload gL295_4) ?_
                  refine jx_ld (pc' := 154) (l' := L295) (st' := [.int (i32 (r249)), .int (i32 (last)), .ref 89]) rfl (jl_iload gL295_6) ?_
                  refine jr_st (pc' := 155) (i := 22) (m := 7000) (z := last) (y := r249) rfl (by decide) rfl (by decide) (by omega) (by omega) rfl ?_
                  have hW304 : Wk G247 (uA A248 22 (last).toNat (r249)) := Wk_a hW256 (show (-2147483648 : Int) ≤ r249 by omega) (show r249 ≤ (2147483647 : Int) by omega)
                  have hF305 := Fr_a (z := r249) (k := 22) (n := (last).toNat) hF273 (by decide)
                  obtain ⟨A303, eA303⟩ : ∃ q, q = uA A248 22 (last).toNat (r249) := ⟨_, rfl⟩
                  rw [← eA303]
                  rw [← eA303] at hW304 hF305
                  have q306 : A303 22 (last).toNat = r249 := by rw [eA303]; exact uA_eq
                  have hP307 : Pf nd A A303 := eA303 ▸ Pf_a hP274 (z := last) (by omega) (by omega)
                  have sf308 : ND A303 (n) (25) (nu) (0) (0) (0) (Ax 21 (n).toNat) (0) := ND_ag (by omega) (Ag_st eA303 (by omega) (by omega)) sf275
                  have sf309 : CA A303 Vs sb (n) (r249) ((kk + 1)) (pp) (n + 1) (nd2_253) := CA_two eA303 (by omega) (by omega) (by omega) a285 a286 sf276
                  have sf310 : wA A303 Vs sb (pp + kk) (r249) (nd1) (nd2_253) := wA_ag (by omega) (Sg_ne eA303 rfl) (Ax_ag (Ag_st eA303 (by omega) (by omega))) a285
                  have sf311 : NX A303 (r249) := NX_ag (by omega) (Ag_st eA303 (by omega) (by omega)) a286
                  have ec312 : ecn A303 (G247 31) = ec2_255 := (ecn_e ((congrFun eA303 15).trans (uA_ne (by decide)))).trans e265
                  refine jx_ld (pc' := 157) (l' := L295) (st' := [.int (i32 (r249))]) rfl (jl_iload gL295_6) ?_
                  refine jx_ld (pc' := 159) (l' := jSto1 L295 4 (.int (i32 (r249)))) (st' := []) rfl rfl ?_
                  obtain ⟨L313, eL313⟩ : ∃ q, q = jSto1 L295 4 (.int (i32 (r249))) := ⟨_, rfl⟩
                  rw [← eL313]
                  have gL313_0 : jGet L313 0 = some (.ref 66) := eL313 ▸ jg_ne (by decide) gL295_0 rfl
                  have gL313_1 : jGet L313 1 = some (.int (i32 (s))) := eL313 ▸ jg_ne (by decide) gL295_1 rfl
                  have gL313_2 : jGet L313 2 = some (.int (i32 (n))) := eL313 ▸ jg_ne (by decide) gL295_2 rfl
                  have gL313_3 : jGet L313 3 = some (.int (i32 (many))) := eL313 ▸ jg_ne (by decide) gL295_3 rfl
                  have gL313_5 : jGet L313 5 = some (.int (i32 (kk))) := eL313 ▸ jg_ne (by decide) gL295_5 rfl
                  have gL313_6 : jGet L313 6 = some (.int (i32 (r249))) := eL313 ▸ jg_ne (by decide) gL295_6 rfl
                  have gL313_4 : jGet L313 4 = some (.int (i32 (r249))) := eL313 ▸ jg_eq
                  refine jx_inc (pc' := 162) (l' := jSto1 L313 5 (.int (i32 ((kk + (1)))))) (x := kk) rfl gL313_5 (by decide) rfl rfl ?_
                  obtain ⟨L314, eL314⟩ : ∃ q, q = jSto1 L313 5 (.int (i32 ((kk + (1))))) := ⟨_, rfl⟩
                  rw [← eL314]
                  have gL314_0 : jGet L314 0 = some (.ref 66) := eL314 ▸ jg_ne (by decide) gL313_0 rfl
                  have gL314_1 : jGet L314 1 = some (.int (i32 (s))) := eL314 ▸ jg_ne (by decide) gL313_1 rfl
                  have gL314_2 : jGet L314 2 = some (.int (i32 (n))) := eL314 ▸ jg_ne (by decide) gL313_2 rfl
                  have gL314_3 : jGet L314 3 = some (.int (i32 (many))) := eL314 ▸ jg_ne (by decide) gL313_3 rfl
                  have gL314_6 : jGet L314 6 = some (.int (i32 (r249))) := eL314 ▸ jg_ne (by decide) gL313_6 rfl
                  have gL314_4 : jGet L314 4 = some (.int (i32 (r249))) := eL314 ▸ jg_ne (by decide) gL313_4 rfl
                  have gL314_5 : jGet L314 5 = some (.int (i32 ((kk + (1))))) := eL314 ▸ jg_eq
                  refine jx_ld (pc' := 163) (l' := L314) (st' := [.ref 66]) rfl (jl_aloadn gL314_0) ?_
                  refine jx_ar (pc' := 165) (st' := [.int (i32 (44)), .ref 66]) rfl rfl rfl rfl ?_
                  have b315 : (-2147483648 : Int) ≤ G247 13 ∧ G247 13 ≤ 2147483647 := hW256.1 13
                  refine jx_vr (pc' := 168) (as := [.int (i32 (44))]) (st := []) rfl rfl rfl rfl ⟨rfl, rfl, Nat.le_of_ble_eq_true rfl⟩ rfl rfl (c_is (dd := d) (hd := by omega) (hW := hW304) (k := 44) (tk := tk2_254) (e_tk := show G247 11 = tk2_254 from (e264)) (tn := G247 13) (e_tn := show G247 13 = G247 13 from rfl)  (h_k := ⟨(by decide), (by decide)⟩)  ) (fun o V' hq => ?_)
                  obtain ⟨r316, rfl, rfl, b317, q318⟩ := hq
                  refine .inr ⟨_, rfl, ?_⟩
                  rcases q318 with ⟨rfl, a319, a320, a321⟩ | rfl
                  · have _q : True := trivial
                    refine jx_if_eq (pc' := 171) (tg := 194) rfl rfl rfl (by decide) (by decide) (fun h322 => ?_) (fun h322 => ?_)
                    · have _q := h322
                      exact absurd h322 (by omega)
                    · have _q := h322
                      refine jx_ld (pc' := 173) (l' := L314) (st' := [.int (i32 ((kk + (1))))]) rfl (jl_iload gL314_5) ?_
                      refine jx_ld (pc' := 174) (l' := L314) (st' := [.int (i32 (many)), .int (i32 ((kk + (1))))]) rfl (jl_iloadn gL314_3) ?_
                      refine jx_icmp_ne (pc' := 177) (tg := 186) rfl rfl rfl (by omega) (by omega) (Int.le_trans (by decide : (-2147483648 : Int) ≤ -2147483648) rx_many.1) (Int.le_trans rx_many.2 (by decide : (2147483647 : Int) ≤ 2147483647)) (fun h323 => ?_) (fun h323 => ?_)
                      · have _q := h323
                        refine jx_ld (pc' := 187) (l' := L314) (st' := [.ref 66]) rfl (jl_aloadn gL314_0) ?_
                        refine jx_ar (pc' := 188) (st' := [.int (i32 (1)), .ref 66]) rfl rfl rfl rfl ?_
                        refine jx_vr (pc' := 191) (as := [.int (i32 (1))]) (st := []) rfl rfl rfl rfl ⟨rfl, rfl, Nat.le_of_ble_eq_true rfl⟩ rfl rfl (c_need (dd := d) (hd := by omega) (hW := hW304) (g := 1) (ln := ln) (e_ln := show G247 9 = ln from ((hF257.1 9 rfl).trans (fx_9))) (le := le) (e_le := show A303 4 (ln).toNat = le from (congrFun (((congrFun eA303 4).trans (uA_ne (by decide))).trans ((hF257.2 4 rfl).trans (hFx.2 4 rfl))) _).trans (e_le)) (at0 := at2_250) (e_at0 := show G247 10 = at2_250 from (e260)) (fk := fk2_251) (e_fk := show G247 16 = fk2_251 from (e261)) (tk0 := tk2_254) (e_tk0 := show G247 11 = tk2_254 from (e264))  (h_g := ⟨(by decide), (by decide)⟩)  (p_0 := by omega)) (fun o V' hq => ?_)
                        obtain ⟨G324, A325, at2_326, tk2_327, fk2_328, rfl, rfl, hW329, hF330, e331, e332, e333, p334, p335, q336⟩ := hq
                        have hF337 := Fr_tr hF305 hF330 (Fr_sub (by decide)) (Fr_sub (by decide))
                        have hP338 := Pf_f hP307 hF330 (by decide)
                        have sf339 : ND A325 (n) (25) (nu) (0) (0) (0) (Ax 21 (n).toNat) (0) := ND_ag (by omega) (Ag_fr hF330 (by decide)) sf308
                        have sf340 : CA A325 Vs sb (n) (r249) ((kk + 1)) (pp) (n + 1) (nd2_253) := CA_ag (by omega) (Sg_fr hF330 (by decide)) (Ag_fr hF330 (by decide)) (congrFun (hF330.2 21 rfl) _) sf309
                        have sf341 : wA A325 Vs sb (pp + kk) (r249) (nd1) (nd2_253) := wA_ag (by omega) (Sg_fr hF330 (by decide)) (Ax_ag (Ag_fr hF330 (by decide))) sf310
                        have sf342 : NX A325 (r249) := NX_ag (by omega) (Ag_fr hF330 (by decide)) sf311
                        have ec343 : ecn A325 (G324 31) = ec2_255 := (ecn_f (hF330.2 15 rfl) (hF330.1 31 rfl)).trans ec312
                        have bat2_326 : (0 : Int) ≤ at2_326 ∧ at2_326 ≤ 3002 := e331 ▸ hW329.1 10
                        have ztk2_327 := tz_b tk2_327
                        have btk2_327 : (0 : Int) ≤ tk2_327 ∧ tk2_327 ≤ 5 := e332 ▸ hW329.1 11
                        have bfk2_328 : (0 : Int) ≤ fk2_328 ∧ fk2_328 ≤ 6 := e333 ▸ hW329.1 16
                        refine .inl ⟨rfl, ?_⟩
                        rcases q336 with ⟨a344, a345, a346, a347⟩ | ⟨a348, a349, a350, a351⟩
                        · have _q : True := trivial
                          refine jx_go (tg := 230) rfl rfl ?_
                          refine jx_go (tg := 88) rfl rfl ?_
                          have z352 := tz_f (tk2_327)
                          exact c_readCall_w_at_88p (X := X) (d := d) (Vs := Vs) (sb := sb) (pb := pb) (c0 := c0) (c1 := c1) (G := G) (A := A) (T := T) (s := s) (ln := ln) (le := le) (at0 := at0) (fk := fk) (op0 := op0) (nd := nd) (tk0 := tk0) (li := li) (kd := kd) (nu := nu) (mp := mp) (pp := pp) (ec := ec) (hd := hd) (hW := hW) (e_ln := e_ln) (e_le := e_le) (e_at0 := e_at0) (e_fk := e_fk) (e_op0 := e_op0) (e_nd := e_nd) (e_tk0 := e_tk0) (e_li := e_li) (e_kd := e_kd) (e_nu := e_nu) (e_mp := e_mp) (e_pp := e_pp) (e_ec := e_ec) (i_SV := i_SV) (i_PQ := i_PQ) (h_s := h_s) (p_0 := p_0) (p_1 := p_1) (p_2 := p_2) (p_3 := p_3) (p_4 := p_4) (p_5 := p_5) (p_6 := p_6) (p_7 := p_7) (p_8 := p_8) L314 G324 A325 (n) (many) (r249) ((kk + (1))) (at2_326) (tk2_327) (fk2_328) (nd2_253) (op2_252) (ec2_255) gL314_0 gL314_1 gL314_2 gL314_3 gL314_4 gL314_5 hW329 hF337 hP338 ((e331)) ((e332)) ((e333)) (((hF330.1 31 rfl).trans (e263))) (((hF330.1 15 rfl).trans (e262))) (ec343) (((hF330.1 9 rfl).trans ((hF257.1 9 rfl).trans (fx_9)))) (by omega) (by omega) (by omega) (by omega) (by omega) (by omega) (by omega) (by omega) (by omega) (by omega) (by omega)
                        · have _q : True := trivial
                          have pz353 : at2_250 + tz tk2_327 ≤ at2_326 := by omega
                          refine jx_go (tg := 230) rfl rfl ?_
                          refine jx_go (tg := 88) rfl rfl ?_
                          have z354 := tz_f (tk2_327)
                          exact ih88 _ (by omega) L314 G324 A325 (n) (many) (r249) ((kk + (1))) (at2_326) (tk2_327) (fk2_328) (nd2_253) (op2_252) (ec2_255) rfl gL314_0 gL314_1 gL314_2 gL314_3 gL314_4 gL314_5 hW329 hF337 hP338 ((e331)) ((e332)) ((e333)) (((hF330.1 31 rfl).trans (e263))) (((hF330.1 15 rfl).trans (e262))) (ec343) (((hF330.1 9 rfl).trans ((hF257.1 9 rfl).trans (fx_9)))) (by omega) (by omega) (by omega) (by omega) (by omega) (by omega) (by omega) (by omega) (by omega) (by omega) (by omega) (by omega) (by omega) (by omega) (by omega) (by omega) (by omega) (by omega) (by omega) ((ND_sf sf339)) ((CA_eq sf340 (by omega) (by omega) (by omega) (by omega) (by omega))) (by omega) (by omega)
                      · have _q := h323
                        refine jx_ld (pc' := 178) (l' := L314) (st' := [.ref 66]) rfl (jl_aloadn gL314_0) ?_
                        refine jx_ar (pc' := 179) (st' := [.int (i32 (4)), .ref 66]) rfl rfl rfl rfl ?_
                        refine jx_ld (pc' := 180) (l' := L314) (st' := [.ref 66, .int (i32 (4)), .ref 66]) rfl (jl_aloadn gL314_0) ?_
                        have b355 : (-3000 : Int) ≤ G247 12 ∧ G247 12 ≤ 3002 := hW256.1 12
                        refine jr_get (pc' := 183) (i := 12) (v := .int (i32 (G247 12))) rfl rfl (by decide) rfl rfl ?_
                        refine jx_vr (pc' := 186) (as := [.int (i32 (4)), .int (i32 (G247 12))]) (st := []) rfl rfl rfl rfl ⟨rfl, rfl, Nat.le_of_ble_eq_true rfl⟩ rfl rfl (c_fail (dd := d) (hd := by omega) (hW := hW304) (kind := 4) (place := G247 12) (fk := fk2_251) (e_fk := show G247 16 = fk2_251 from (e261))  (h_kind := ⟨(by decide), (by decide)⟩) (h_place := ⟨(Int.le_trans (by decide : (-2147483648 : Int) ≤ -3000) b355.1), (Int.le_trans b355.2 (by decide : (3002 : Int) ≤ 2147483647))⟩)  (p_0 := by omega) (p_1 := by omega)) (fun o V' hq => ?_)
                        obtain ⟨G356, A357, fk2_358, rfl, rfl, hW359, hF360, e361, p362, -⟩ := hq
                        have hF364 := Fr_tr hF305 hF360 (Fr_sub (by decide)) (Fr_sub (by decide))
                        have hP365 := Pf_f hP307 hF360 (by decide)
                        have sf366 : ND A357 (n) (25) (nu) (0) (0) (0) (Ax 21 (n).toNat) (0) := ND_ag (by omega) (Ag_fr hF360 (by decide)) sf308
                        have sf367 : CA A357 Vs sb (n) (r249) ((kk + 1)) (pp) (n + 1) (nd2_253) := CA_ag (by omega) (Sg_fr hF360 (by decide)) (Ag_fr hF360 (by decide)) (congrFun (hF360.2 21 rfl) _) sf309
                        have sf368 : wA A357 Vs sb (pp + kk) (r249) (nd1) (nd2_253) := wA_ag (by omega) (Sg_fr hF360 (by decide)) (Ax_ag (Ag_fr hF360 (by decide))) sf310
                        have sf369 : NX A357 (r249) := NX_ag (by omega) (Ag_fr hF360 (by decide)) sf311
                        have ec370 : ecn A357 (G356 31) = ec2_255 := (ecn_f (hF360.2 15 rfl) (hF360.1 31 rfl)).trans ec312
                        have bfk2_358 : (0 : Int) ≤ fk2_358 ∧ fk2_358 ≤ 6 := e361 ▸ hW359.1 16
                        refine .inl ⟨rfl, ?_⟩
                        refine jx_ld (pc' := 187) (l' := L314) (st' := [.ref 66]) rfl (jl_aloadn gL314_0) ?_
                        refine jx_ar (pc' := 188) (st' := [.int (i32 (1)), .ref 66]) rfl rfl rfl rfl ?_
                        refine jx_vr (pc' := 191) (as := [.int (i32 (1))]) (st := []) rfl rfl rfl rfl ⟨rfl, rfl, Nat.le_of_ble_eq_true rfl⟩ rfl rfl (c_need (dd := d) (hd := by omega) (hW := hW359) (g := 1) (ln := ln) (e_ln := show G356 9 = ln from ((hF360.1 9 rfl).trans ((hF257.1 9 rfl).trans (fx_9)))) (le := le) (e_le := show A357 4 (ln).toNat = le from (congrFun ((hF360.2 4 rfl).trans (((congrFun eA303 4).trans (uA_ne (by decide))).trans ((hF257.2 4 rfl).trans (hFx.2 4 rfl)))) _).trans (e_le)) (at0 := at2_250) (e_at0 := show G356 10 = at2_250 from ((hF360.1 10 rfl).trans (e260))) (fk := fk2_358) (e_fk := show G356 16 = fk2_358 from (e361)) (tk0 := tk2_254) (e_tk0 := show G356 11 = tk2_254 from ((hF360.1 11 rfl).trans (e264)))  (h_g := ⟨(by decide), (by decide)⟩)  (p_0 := by omega)) (fun o V' hq => ?_)
                        obtain ⟨G371, A372, at2_373, tk2_374, fk2_375, rfl, rfl, hW376, hF377, e378, e379, e380, p381, p382, q383⟩ := hq
                        have hF384 := Fr_tr hF364 hF377 (Fr_sub (by decide)) (Fr_sub (by decide))
                        have hP385 := Pf_f hP365 hF377 (by decide)
                        have sf386 : ND A372 (n) (25) (nu) (0) (0) (0) (Ax 21 (n).toNat) (0) := ND_ag (by omega) (Ag_fr hF377 (by decide)) sf366
                        have sf387 : CA A372 Vs sb (n) (r249) ((kk + 1)) (pp) (n + 1) (nd2_253) := CA_ag (by omega) (Sg_fr hF377 (by decide)) (Ag_fr hF377 (by decide)) (congrFun (hF377.2 21 rfl) _) sf367
                        have sf388 : wA A372 Vs sb (pp + kk) (r249) (nd1) (nd2_253) := wA_ag (by omega) (Sg_fr hF377 (by decide)) (Ax_ag (Ag_fr hF377 (by decide))) sf368
                        have sf389 : NX A372 (r249) := NX_ag (by omega) (Ag_fr hF377 (by decide)) sf369
                        have ec390 : ecn A372 (G371 31) = ec2_255 := (ecn_f (hF377.2 15 rfl) (hF377.1 31 rfl)).trans ec370
                        have bat2_373 : (0 : Int) ≤ at2_373 ∧ at2_373 ≤ 3002 := e378 ▸ hW376.1 10
                        have ztk2_374 := tz_b tk2_374
                        have btk2_374 : (0 : Int) ≤ tk2_374 ∧ tk2_374 ≤ 5 := e379 ▸ hW376.1 11
                        have bfk2_375 : (0 : Int) ≤ fk2_375 ∧ fk2_375 ≤ 6 := e380 ▸ hW376.1 16
                        refine .inl ⟨rfl, ?_⟩
                        rcases q383 with ⟨a391, a392, a393, a394⟩ | ⟨a395, a396, a397, a398⟩
                        · have _q : True := trivial
                          refine jx_go (tg := 230) rfl rfl ?_
                          refine jx_go (tg := 88) rfl rfl ?_
                          have z399 := tz_f (tk2_374)
                          exact c_readCall_w_at_88p (X := X) (d := d) (Vs := Vs) (sb := sb) (pb := pb) (c0 := c0) (c1 := c1) (G := G) (A := A) (T := T) (s := s) (ln := ln) (le := le) (at0 := at0) (fk := fk) (op0 := op0) (nd := nd) (tk0 := tk0) (li := li) (kd := kd) (nu := nu) (mp := mp) (pp := pp) (ec := ec) (hd := hd) (hW := hW) (e_ln := e_ln) (e_le := e_le) (e_at0 := e_at0) (e_fk := e_fk) (e_op0 := e_op0) (e_nd := e_nd) (e_tk0 := e_tk0) (e_li := e_li) (e_kd := e_kd) (e_nu := e_nu) (e_mp := e_mp) (e_pp := e_pp) (e_ec := e_ec) (i_SV := i_SV) (i_PQ := i_PQ) (h_s := h_s) (p_0 := p_0) (p_1 := p_1) (p_2 := p_2) (p_3 := p_3) (p_4 := p_4) (p_5 := p_5) (p_6 := p_6) (p_7 := p_7) (p_8 := p_8) L314 G371 A372 (n) (many) (r249) ((kk + (1))) (at2_373) (tk2_374) (fk2_375) (nd2_253) (op2_252) (ec2_255) gL314_0 gL314_1 gL314_2 gL314_3 gL314_4 gL314_5 hW376 hF384 hP385 ((e378)) ((e379)) ((e380)) (((hF377.1 31 rfl).trans ((hF360.1 31 rfl).trans (e263)))) (((hF377.1 15 rfl).trans ((hF360.1 15 rfl).trans (e262)))) (ec390) (((hF377.1 9 rfl).trans ((hF360.1 9 rfl).trans ((hF257.1 9 rfl).trans (fx_9))))) (by omega) (by omega) (by omega) (by omega) (by omega) (by omega) (by omega) (by omega) (by omega) (by omega) (by omega)
                        · have _q : True := trivial
                          exfalso
                          omega
                  · have _q : True := trivial
                    refine jx_if_eq (pc' := 171) (tg := 194) rfl rfl rfl (by decide) (by decide) (fun h400 => ?_) (fun h400 => ?_)
                    · have _q := h400
                      refine jx_ld (pc' := 195) (l' := L314) (st' := [.ref 66]) rfl (jl_aloadn gL314_0) ?_
                      refine jx_ar (pc' := 197) (st' := [.int (i32 (41)), .ref 66]) rfl rfl rfl rfl ?_
                      refine jx_vr (pc' := 200) (as := [.int (i32 (41))]) (st := []) rfl rfl rfl rfl ⟨rfl, rfl, Nat.le_of_ble_eq_true rfl⟩ rfl rfl (c_is (dd := d) (hd := by omega) (hW := hW304) (k := 41) (tk := tk2_254) (e_tk := show G247 11 = tk2_254 from (e264)) (tn := G247 13) (e_tn := show G247 13 = G247 13 from rfl)  (h_k := ⟨(by decide), (by decide)⟩)  ) (fun o V' hq => ?_)
                      obtain ⟨r401, rfl, rfl, b402, q403⟩ := hq
                      refine .inr ⟨_, rfl, ?_⟩
                      rcases q403 with ⟨rfl, a404, a405, a406⟩ | rfl
                      · have _q : True := trivial
                        refine jx_if_eq (pc' := 203) (tg := 221) rfl rfl rfl (by decide) (by decide) (fun h407 => ?_) (fun h407 => ?_)
                        · have _q := h407
                          exact absurd h407 (by omega)
                        · have _q := h407
                          refine jx_ld (pc' := 205) (l' := L314) (st' := [.int (i32 ((kk + (1))))]) rfl (jl_iload gL314_5) ?_
                          refine jx_ld (pc' := 206) (l' := L314) (st' := [.int (i32 (many)), .int (i32 ((kk + (1))))]) rfl (jl_iloadn gL314_3) ?_
                          refine jx_icmp_ge (pc' := 209) (tg := 230) rfl rfl rfl (by omega) (by omega) (Int.le_trans (by decide : (-2147483648 : Int) ≤ -2147483648) rx_many.1) (Int.le_trans rx_many.2 (by decide : (2147483647 : Int) ≤ 2147483647)) (fun h408 => ?_) (fun h408 => ?_)
                          · have _q := h408
                            refine jx_go (tg := 88) rfl rfl ?_
                            have z409 := tz_f (tk2_254)
                            exact ih88 _ (by omega) L314 G247 A303 (n) (many) (r249) ((kk + (1))) (at2_250) (tk2_254) (fk2_251) (nd2_253) (op2_252) (ec2_255) rfl gL314_0 gL314_1 gL314_2 gL314_3 gL314_4 gL314_5 hW304 hF305 hP307 ((e260)) ((e264)) ((e261)) ((e263)) ((e262)) (ec312) (((hF257.1 9 rfl).trans (fx_9))) (by omega) (by omega) (by omega) (by omega) (by omega) (by omega) (by omega) (by omega) (by omega) (by omega) (by omega) (by omega) (by omega) (by omega) (by omega) (by omega) (by omega) (by omega) (by omega) ((ND_sf sf308)) ((CA_eq sf309 (by omega) (by omega) (by omega) (by omega) (by omega))) (by omega) (by omega)
                          · have _q := h408
                            refine jx_ld (pc' := 210) (l' := L314) (st' := [.ref 66]) rfl (jl_aloadn gL314_0) ?_
                            refine jx_ar (pc' := 211) (st' := [.int (i32 (4)), .ref 66]) rfl rfl rfl rfl ?_
                            refine jx_ld (pc' := 212) (l' := L314) (st' := [.ref 66, .int (i32 (4)), .ref 66]) rfl (jl_aloadn gL314_0) ?_
                            have b410 : (-3000 : Int) ≤ G247 12 ∧ G247 12 ≤ 3002 := hW256.1 12
                            refine jr_get (pc' := 215) (i := 12) (v := .int (i32 (G247 12))) rfl rfl (by decide) rfl rfl ?_
                            refine jx_vr (pc' := 218) (as := [.int (i32 (4)), .int (i32 (G247 12))]) (st := []) rfl rfl rfl rfl ⟨rfl, rfl, Nat.le_of_ble_eq_true rfl⟩ rfl rfl (c_fail (dd := d) (hd := by omega) (hW := hW304) (kind := 4) (place := G247 12) (fk := fk2_251) (e_fk := show G247 16 = fk2_251 from (e261))  (h_kind := ⟨(by decide), (by decide)⟩) (h_place := ⟨(Int.le_trans (by decide : (-2147483648 : Int) ≤ -3000) b410.1), (Int.le_trans b410.2 (by decide : (3002 : Int) ≤ 2147483647))⟩)  (p_0 := by omega) (p_1 := by omega)) (fun o V' hq => ?_)
                            obtain ⟨G411, A412, fk2_413, rfl, rfl, hW414, hF415, e416, p417, -⟩ := hq
                            have hF419 := Fr_tr hF305 hF415 (Fr_sub (by decide)) (Fr_sub (by decide))
                            have hP420 := Pf_f hP307 hF415 (by decide)
                            have sf421 : ND A412 (n) (25) (nu) (0) (0) (0) (Ax 21 (n).toNat) (0) := ND_ag (by omega) (Ag_fr hF415 (by decide)) sf308
                            have sf422 : CA A412 Vs sb (n) (r249) ((kk + 1)) (pp) (n + 1) (nd2_253) := CA_ag (by omega) (Sg_fr hF415 (by decide)) (Ag_fr hF415 (by decide)) (congrFun (hF415.2 21 rfl) _) sf309
                            have sf423 : wA A412 Vs sb (pp + kk) (r249) (nd1) (nd2_253) := wA_ag (by omega) (Sg_fr hF415 (by decide)) (Ax_ag (Ag_fr hF415 (by decide))) sf310
                            have sf424 : NX A412 (r249) := NX_ag (by omega) (Ag_fr hF415 (by decide)) sf311
                            have ec425 : ecn A412 (G411 31) = ec2_255 := (ecn_f (hF415.2 15 rfl) (hF415.1 31 rfl)).trans ec312
                            have bfk2_413 : (0 : Int) ≤ fk2_413 ∧ fk2_413 ≤ 6 := e416 ▸ hW414.1 16
                            refine .inl ⟨rfl, ?_⟩
                            refine jx_go (tg := 230) rfl rfl ?_
                            refine jx_go (tg := 88) rfl rfl ?_
                            have z426 := tz_f (tk2_254)
                            exact c_readCall_w_at_88p (X := X) (d := d) (Vs := Vs) (sb := sb) (pb := pb) (c0 := c0) (c1 := c1) (G := G) (A := A) (T := T) (s := s) (ln := ln) (le := le) (at0 := at0) (fk := fk) (op0 := op0) (nd := nd) (tk0 := tk0) (li := li) (kd := kd) (nu := nu) (mp := mp) (pp := pp) (ec := ec) (hd := hd) (hW := hW) (e_ln := e_ln) (e_le := e_le) (e_at0 := e_at0) (e_fk := e_fk) (e_op0 := e_op0) (e_nd := e_nd) (e_tk0 := e_tk0) (e_li := e_li) (e_kd := e_kd) (e_nu := e_nu) (e_mp := e_mp) (e_pp := e_pp) (e_ec := e_ec) (i_SV := i_SV) (i_PQ := i_PQ) (h_s := h_s) (p_0 := p_0) (p_1 := p_1) (p_2 := p_2) (p_3 := p_3) (p_4 := p_4) (p_5 := p_5) (p_6 := p_6) (p_7 := p_7) (p_8 := p_8) L314 G411 A412 (n) (many) (r249) ((kk + (1))) (at2_250) (tk2_254) (fk2_413) (nd2_253) (op2_252) (ec2_255) gL314_0 gL314_1 gL314_2 gL314_3 gL314_4 gL314_5 hW414 hF419 hP420 (((hF415.1 10 rfl).trans (e260))) (((hF415.1 11 rfl).trans (e264))) ((e416)) (((hF415.1 31 rfl).trans (e263))) (((hF415.1 15 rfl).trans (e262))) (ec425) (((hF415.1 9 rfl).trans ((hF257.1 9 rfl).trans (fx_9)))) (by omega) (by omega) (by omega) (by omega) (by omega) (by omega) (by omega) (by omega) (by omega) (by omega) (by omega)
                      · have _q : True := trivial
                        refine jx_if_eq (pc' := 203) (tg := 221) rfl rfl rfl (by decide) (by decide) (fun h427 => ?_) (fun h427 => ?_)
                        · have _q := h427
                          refine jx_ld (pc' := 222) (l' := L314) (st' := [.ref 66]) rfl (jl_aloadn gL314_0) ?_
                          refine jx_ar (pc' := 223) (st' := [.int (i32 (1)), .ref 66]) rfl rfl rfl rfl ?_
                          refine jx_ld (pc' := 224) (l' := L314) (st' := [.ref 66, .int (i32 (1)), .ref 66]) rfl (jl_aloadn gL314_0) ?_
                          have b428 : (-3000 : Int) ≤ G247 12 ∧ G247 12 ≤ 3002 := hW256.1 12
                          refine jr_get (pc' := 227) (i := 12) (v := .int (i32 (G247 12))) rfl rfl (by decide) rfl rfl ?_
                          refine jx_vr (pc' := 230) (as := [.int (i32 (1)), .int (i32 (G247 12))]) (st := []) rfl rfl rfl rfl ⟨rfl, rfl, Nat.le_of_ble_eq_true rfl⟩ rfl rfl (c_fail (dd := d) (hd := by omega) (hW := hW304) (kind := 1) (place := G247 12) (fk := fk2_251) (e_fk := show G247 16 = fk2_251 from (e261))  (h_kind := ⟨(by decide), (by decide)⟩) (h_place := ⟨(Int.le_trans (by decide : (-2147483648 : Int) ≤ -3000) b428.1), (Int.le_trans b428.2 (by decide : (3002 : Int) ≤ 2147483647))⟩)  (p_0 := by omega) (p_1 := by omega)) (fun o V' hq => ?_)
                          obtain ⟨G429, A430, fk2_431, rfl, rfl, hW432, hF433, e434, p435, -⟩ := hq
                          have hF437 := Fr_tr hF305 hF433 (Fr_sub (by decide)) (Fr_sub (by decide))
                          have hP438 := Pf_f hP307 hF433 (by decide)
                          have sf439 : ND A430 (n) (25) (nu) (0) (0) (0) (Ax 21 (n).toNat) (0) := ND_ag (by omega) (Ag_fr hF433 (by decide)) sf308
                          have sf440 : CA A430 Vs sb (n) (r249) ((kk + 1)) (pp) (n + 1) (nd2_253) := CA_ag (by omega) (Sg_fr hF433 (by decide)) (Ag_fr hF433 (by decide)) (congrFun (hF433.2 21 rfl) _) sf309
                          have sf441 : wA A430 Vs sb (pp + kk) (r249) (nd1) (nd2_253) := wA_ag (by omega) (Sg_fr hF433 (by decide)) (Ax_ag (Ag_fr hF433 (by decide))) sf310
                          have sf442 : NX A430 (r249) := NX_ag (by omega) (Ag_fr hF433 (by decide)) sf311
                          have ec443 : ecn A430 (G429 31) = ec2_255 := (ecn_f (hF433.2 15 rfl) (hF433.1 31 rfl)).trans ec312
                          have bfk2_431 : (0 : Int) ≤ fk2_431 ∧ fk2_431 ≤ 6 := e434 ▸ hW432.1 16
                          refine .inl ⟨rfl, ?_⟩
                          refine jx_go (tg := 88) rfl rfl ?_
                          have z444 := tz_f (tk2_254)
                          exact c_readCall_w_at_88p (X := X) (d := d) (Vs := Vs) (sb := sb) (pb := pb) (c0 := c0) (c1 := c1) (G := G) (A := A) (T := T) (s := s) (ln := ln) (le := le) (at0 := at0) (fk := fk) (op0 := op0) (nd := nd) (tk0 := tk0) (li := li) (kd := kd) (nu := nu) (mp := mp) (pp := pp) (ec := ec) (hd := hd) (hW := hW) (e_ln := e_ln) (e_le := e_le) (e_at0 := e_at0) (e_fk := e_fk) (e_op0 := e_op0) (e_nd := e_nd) (e_tk0 := e_tk0) (e_li := e_li) (e_kd := e_kd) (e_nu := e_nu) (e_mp := e_mp) (e_pp := e_pp) (e_ec := e_ec) (i_SV := i_SV) (i_PQ := i_PQ) (h_s := h_s) (p_0 := p_0) (p_1 := p_1) (p_2 := p_2) (p_3 := p_3) (p_4 := p_4) (p_5 := p_5) (p_6 := p_6) (p_7 := p_7) (p_8 := p_8) L314 G429 A430 (n) (many) (r249) ((kk + (1))) (at2_250) (tk2_254) (fk2_431) (nd2_253) (op2_252) (ec2_255) gL314_0 gL314_1 gL314_2 gL314_3 gL314_4 gL314_5 hW432 hF437 hP438 (((hF433.1 10 rfl).trans (e260))) (((hF433.1 11 rfl).trans (e264))) ((e434)) (((hF433.1 31 rfl).trans (e263))) (((hF433.1 15 rfl).trans (e262))) (ec443) (((hF433.1 9 rfl).trans ((hF257.1 9 rfl).trans (fx_9)))) (by omega) (by omega) (by omega) (by omega) (by omega) (by omega) (by omega) (by omega) (by omega) (by omega) (by omega)
                        · have _q := h427
                          exact absurd h427 (by omega)
                    · have _q := h400
                      exact absurd h400 (by omega)
                · have _q := h302
                  refine jx_ld (pc' := 136) (l' := L295) (st' := [.ref 66]) rfl (jl_aloadn gL295_0) ?_
                  refine jr_get (pc' := 139) (i := 38) (v := .ref 88) rfl rfl (by decide) rfl rfl ?_
                  refine jx_ld (pc' := 140) (l' := L295) (st' := [.int (i32 (n)), .ref 88]) rfl (jl_iloadn gL295_2) ?_
                  refine jx_ld (pc' := 142) (l' := L295) (st' := [.int (i32 (r249)), .int (i32 (n)), .ref 88]) rfl (jl_iload gL295_6) ?_
                  refine jr_st (pc' := 143) (i := 21) (m := 7000) (z := n) (y := r249) rfl (by decide) rfl (by decide) (by omega) (by omega) rfl ?_
                  have hW446 : Wk G247 (uA A248 21 (n).toNat (r249)) := Wk_a hW256 (show (-2147483648 : Int) ≤ r249 by omega) (show r249 ≤ (2147483647 : Int) by omega)
                  have hF447 := Fr_a (z := r249) (k := 21) (n := (n).toNat) hF273 (by decide)
                  obtain ⟨A445, eA445⟩ : ∃ q, q = uA A248 21 (n).toNat (r249) := ⟨_, rfl⟩
                  rw [← eA445]
                  rw [← eA445] at hW446 hF447
                  have q448 : A445 21 (n).toNat = r249 := by rw [eA445]; exact uA_eq
                  have hP449 : Pf nd A A445 := eA445 ▸ Pf_a hP274 (z := n) (by omega) (by omega)
                  have sf450 : ND A445 (n) (25) (nu) (0) (0) (0) (r249) (0) := ND_f eA445 sf275
                  have sf451 : CA A445 Vs sb (n) (r249) ((kk + 1)) (pp) (n + 1) (nd2_253) := CA_one eA445 (by omega) (by omega) (by omega) a285 a286 (CA_0 (by omega) sf276)
                  have sf452 : wA A445 Vs sb (pp + kk) (r249) (nd1) (nd2_253) := wA_ag (by omega) (Sg_ne eA445 rfl) (Ax_ag (Ag_st eA445 (by omega) (by omega))) a285
                  have sf453 : NX A445 (r249) := NX_r eA445 (by decide) a286
                  have ec454 : ecn A445 (G247 31) = ec2_255 := (ecn_e ((congrFun eA445 15).trans (uA_ne (by decide)))).trans e265
                  refine jx_go (tg := 155) rfl rfl ?_
                  refine jx_ld (pc' := 157) (l' := L295) (st' := [.int (i32 (r249))]) rfl (jl_iload gL295_6) ?_
                  refine jx_ld (pc' := 159) (l' := jSto1 L295 4 (.int (i32 (r249)))) (st' := []) rfl rfl ?_
                  obtain ⟨L455, eL455⟩ : ∃ q, q = jSto1 L295 4 (.int (i32 (r249))) := ⟨_, rfl⟩
                  rw [← eL455]
                  have gL455_0 : jGet L455 0 = some (.ref 66) := eL455 ▸ jg_ne (by decide) gL295_0 rfl
                  have gL455_1 : jGet L455 1 = some (.int (i32 (s))) := eL455 ▸ jg_ne (by decide) gL295_1 rfl
                  have gL455_2 : jGet L455 2 = some (.int (i32 (n))) := eL455 ▸ jg_ne (by decide) gL295_2 rfl
                  have gL455_3 : jGet L455 3 = some (.int (i32 (many))) := eL455 ▸ jg_ne (by decide) gL295_3 rfl
                  have gL455_5 : jGet L455 5 = some (.int (i32 (kk))) := eL455 ▸ jg_ne (by decide) gL295_5 rfl
                  have gL455_6 : jGet L455 6 = some (.int (i32 (r249))) := eL455 ▸ jg_ne (by decide) gL295_6 rfl
                  have gL455_4 : jGet L455 4 = some (.int (i32 (r249))) := eL455 ▸ jg_eq
                  refine jx_inc (pc' := 162) (l' := jSto1 L455 5 (.int (i32 ((kk + (1)))))) (x := kk) rfl gL455_5 (by decide) rfl rfl ?_
                  obtain ⟨L456, eL456⟩ : ∃ q, q = jSto1 L455 5 (.int (i32 ((kk + (1))))) := ⟨_, rfl⟩
                  rw [← eL456]
                  have gL456_0 : jGet L456 0 = some (.ref 66) := eL456 ▸ jg_ne (by decide) gL455_0 rfl
                  have gL456_1 : jGet L456 1 = some (.int (i32 (s))) := eL456 ▸ jg_ne (by decide) gL455_1 rfl
                  have gL456_2 : jGet L456 2 = some (.int (i32 (n))) := eL456 ▸ jg_ne (by decide) gL455_2 rfl
                  have gL456_3 : jGet L456 3 = some (.int (i32 (many))) := eL456 ▸ jg_ne (by decide) gL455_3 rfl
                  have gL456_6 : jGet L456 6 = some (.int (i32 (r249))) := eL456 ▸ jg_ne (by decide) gL455_6 rfl
                  have gL456_4 : jGet L456 4 = some (.int (i32 (r249))) := eL456 ▸ jg_ne (by decide) gL455_4 rfl
                  have gL456_5 : jGet L456 5 = some (.int (i32 ((kk + (1))))) := eL456 ▸ jg_eq
                  refine jx_ld (pc' := 163) (l' := L456) (st' := [.ref 66]) rfl (jl_aloadn gL456_0) ?_
                  refine jx_ar (pc' := 165) (st' := [.int (i32 (44)), .ref 66]) rfl rfl rfl rfl ?_
                  have b457 : (-2147483648 : Int) ≤ G247 13 ∧ G247 13 ≤ 2147483647 := hW256.1 13
                  refine jx_vr (pc' := 168) (as := [.int (i32 (44))]) (st := []) rfl rfl rfl rfl ⟨rfl, rfl, Nat.le_of_ble_eq_true rfl⟩ rfl rfl (c_is (dd := d) (hd := by omega) (hW := hW446) (k := 44) (tk := tk2_254) (e_tk := show G247 11 = tk2_254 from (e264)) (tn := G247 13) (e_tn := show G247 13 = G247 13 from rfl)  (h_k := ⟨(by decide), (by decide)⟩)  ) (fun o V' hq => ?_)
                  obtain ⟨r458, rfl, rfl, b459, q460⟩ := hq
                  refine .inr ⟨_, rfl, ?_⟩
                  rcases q460 with ⟨rfl, a461, a462, a463⟩ | rfl
                  · have _q : True := trivial
                    refine jx_if_eq (pc' := 171) (tg := 194) rfl rfl rfl (by decide) (by decide) (fun h464 => ?_) (fun h464 => ?_)
                    · have _q := h464
                      exact absurd h464 (by omega)
                    · have _q := h464
                      refine jx_ld (pc' := 173) (l' := L456) (st' := [.int (i32 ((kk + (1))))]) rfl (jl_iload gL456_5) ?_
                      refine jx_ld (pc' := 174) (l' := L456) (st' := [.int (i32 (many)), .int (i32 ((kk + (1))))]) rfl (jl_iloadn gL456_3) ?_
                      refine jx_icmp_ne (pc' := 177) (tg := 186) rfl rfl rfl (by omega) (by omega) (Int.le_trans (by decide : (-2147483648 : Int) ≤ -2147483648) rx_many.1) (Int.le_trans rx_many.2 (by decide : (2147483647 : Int) ≤ 2147483647)) (fun h465 => ?_) (fun h465 => ?_)
                      · have _q := h465
                        refine jx_ld (pc' := 187) (l' := L456) (st' := [.ref 66]) rfl (jl_aloadn gL456_0) ?_
                        refine jx_ar (pc' := 188) (st' := [.int (i32 (1)), .ref 66]) rfl rfl rfl rfl ?_
                        refine jx_vr (pc' := 191) (as := [.int (i32 (1))]) (st := []) rfl rfl rfl rfl ⟨rfl, rfl, Nat.le_of_ble_eq_true rfl⟩ rfl rfl (c_need (dd := d) (hd := by omega) (hW := hW446) (g := 1) (ln := ln) (e_ln := show G247 9 = ln from ((hF257.1 9 rfl).trans (fx_9))) (le := le) (e_le := show A445 4 (ln).toNat = le from (congrFun (((congrFun eA445 4).trans (uA_ne (by decide))).trans ((hF257.2 4 rfl).trans (hFx.2 4 rfl))) _).trans (e_le)) (at0 := at2_250) (e_at0 := show G247 10 = at2_250 from (e260)) (fk := fk2_251) (e_fk := show G247 16 = fk2_251 from (e261)) (tk0 := tk2_254) (e_tk0 := show G247 11 = tk2_254 from (e264))  (h_g := ⟨(by decide), (by decide)⟩)  (p_0 := by omega)) (fun o V' hq => ?_)
                        obtain ⟨G466, A467, at2_468, tk2_469, fk2_470, rfl, rfl, hW471, hF472, e473, e474, e475, p476, p477, q478⟩ := hq
                        have hF479 := Fr_tr hF447 hF472 (Fr_sub (by decide)) (Fr_sub (by decide))
                        have hP480 := Pf_f hP449 hF472 (by decide)
                        have sf481 : ND A467 (n) (25) (nu) (0) (0) (0) (r249) (0) := ND_ag (by omega) (Ag_fr hF472 (by decide)) sf450
                        have sf482 : CA A467 Vs sb (n) (r249) ((kk + 1)) (pp) (n + 1) (nd2_253) := CA_ag (by omega) (Sg_fr hF472 (by decide)) (Ag_fr hF472 (by decide)) (congrFun (hF472.2 21 rfl) _) sf451
                        have sf483 : wA A467 Vs sb (pp + kk) (r249) (nd1) (nd2_253) := wA_ag (by omega) (Sg_fr hF472 (by decide)) (Ax_ag (Ag_fr hF472 (by decide))) sf452
                        have sf484 : NX A467 (r249) := NX_ag (by omega) (Ag_fr hF472 (by decide)) sf453
                        have ec485 : ecn A467 (G466 31) = ec2_255 := (ecn_f (hF472.2 15 rfl) (hF472.1 31 rfl)).trans ec454
                        have bat2_468 : (0 : Int) ≤ at2_468 ∧ at2_468 ≤ 3002 := e473 ▸ hW471.1 10
                        have ztk2_469 := tz_b tk2_469
                        have btk2_469 : (0 : Int) ≤ tk2_469 ∧ tk2_469 ≤ 5 := e474 ▸ hW471.1 11
                        have bfk2_470 : (0 : Int) ≤ fk2_470 ∧ fk2_470 ≤ 6 := e475 ▸ hW471.1 16
                        refine .inl ⟨rfl, ?_⟩
                        rcases q478 with ⟨a486, a487, a488, a489⟩ | ⟨a490, a491, a492, a493⟩
                        · have _q : True := trivial
                          refine jx_go (tg := 230) rfl rfl ?_
                          refine jx_go (tg := 88) rfl rfl ?_
                          have z494 := tz_f (tk2_469)
                          exact c_readCall_w_at_88p (X := X) (d := d) (Vs := Vs) (sb := sb) (pb := pb) (c0 := c0) (c1 := c1) (G := G) (A := A) (T := T) (s := s) (ln := ln) (le := le) (at0 := at0) (fk := fk) (op0 := op0) (nd := nd) (tk0 := tk0) (li := li) (kd := kd) (nu := nu) (mp := mp) (pp := pp) (ec := ec) (hd := hd) (hW := hW) (e_ln := e_ln) (e_le := e_le) (e_at0 := e_at0) (e_fk := e_fk) (e_op0 := e_op0) (e_nd := e_nd) (e_tk0 := e_tk0) (e_li := e_li) (e_kd := e_kd) (e_nu := e_nu) (e_mp := e_mp) (e_pp := e_pp) (e_ec := e_ec) (i_SV := i_SV) (i_PQ := i_PQ) (h_s := h_s) (p_0 := p_0) (p_1 := p_1) (p_2 := p_2) (p_3 := p_3) (p_4 := p_4) (p_5 := p_5) (p_6 := p_6) (p_7 := p_7) (p_8 := p_8) L456 G466 A467 (n) (many) (r249) ((kk + (1))) (at2_468) (tk2_469) (fk2_470) (nd2_253) (op2_252) (ec2_255) gL456_0 gL456_1 gL456_2 gL456_3 gL456_4 gL456_5 hW471 hF479 hP480 ((e473)) ((e474)) ((e475)) (((hF472.1 31 rfl).trans (e263))) (((hF472.1 15 rfl).trans (e262))) (ec485) (((hF472.1 9 rfl).trans ((hF257.1 9 rfl).trans (fx_9)))) (by omega) (by omega) (by omega) (by omega) (by omega) (by omega) (by omega) (by omega) (by omega) (by omega) (by omega)
                        · have _q : True := trivial
                          have pz495 : at2_250 + tz tk2_469 ≤ at2_468 := by omega
                          refine jx_go (tg := 230) rfl rfl ?_
                          refine jx_go (tg := 88) rfl rfl ?_
                          have z496 := tz_f (tk2_469)
                          exact ih88 _ (by omega) L456 G466 A467 (n) (many) (r249) ((kk + (1))) (at2_468) (tk2_469) (fk2_470) (nd2_253) (op2_252) (ec2_255) rfl gL456_0 gL456_1 gL456_2 gL456_3 gL456_4 gL456_5 hW471 hF479 hP480 ((e473)) ((e474)) ((e475)) (((hF472.1 31 rfl).trans (e263))) (((hF472.1 15 rfl).trans (e262))) (ec485) (((hF472.1 9 rfl).trans ((hF257.1 9 rfl).trans (fx_9)))) (by omega) (by omega) (by omega) (by omega) (by omega) (by omega) (by omega) (by omega) (by omega) (by omega) (by omega) (by omega) (by omega) (by omega) (by omega) (by omega) (by omega) (by omega) (by omega) ((ND_sf sf481)) ((CA_eq sf482 (by omega) (by omega) (by omega) (by omega) (by omega))) (by omega) (by omega)
                      · have _q := h465
                        refine jx_ld (pc' := 178) (l' := L456) (st' := [.ref 66]) rfl (jl_aloadn gL456_0) ?_
                        refine jx_ar (pc' := 179) (st' := [.int (i32 (4)), .ref 66]) rfl rfl rfl rfl ?_
                        refine jx_ld (pc' := 180) (l' := L456) (st' := [.ref 66, .int (i32 (4)), .ref 66]) rfl (jl_aloadn gL456_0) ?_
                        have b497 : (-3000 : Int) ≤ G247 12 ∧ G247 12 ≤ 3002 := hW256.1 12
                        refine jr_get (pc' := 183) (i := 12) (v := .int (i32 (G247 12))) rfl rfl (by decide) rfl rfl ?_
                        refine jx_vr (pc' := 186) (as := [.int (i32 (4)), .int (i32 (G247 12))]) (st := []) rfl rfl rfl rfl ⟨rfl, rfl, Nat.le_of_ble_eq_true rfl⟩ rfl rfl (c_fail (dd := d) (hd := by omega) (hW := hW446) (kind := 4) (place := G247 12) (fk := fk2_251) (e_fk := show G247 16 = fk2_251 from (e261))  (h_kind := ⟨(by decide), (by decide)⟩) (h_place := ⟨(Int.le_trans (by decide : (-2147483648 : Int) ≤ -3000) b497.1), (Int.le_trans b497.2 (by decide : (3002 : Int) ≤ 2147483647))⟩)  (p_0 := by omega) (p_1 := by omega)) (fun o V' hq => ?_)
                        obtain ⟨G498, A499, fk2_500, rfl, rfl, hW501, hF502, e503, p504, -⟩ := hq
                        have hF506 := Fr_tr hF447 hF502 (Fr_sub (by decide)) (Fr_sub (by decide))
                        have hP507 := Pf_f hP449 hF502 (by decide)
                        have sf508 : ND A499 (n) (25) (nu) (0) (0) (0) (r249) (0) := ND_ag (by omega) (Ag_fr hF502 (by decide)) sf450
                        have sf509 : CA A499 Vs sb (n) (r249) ((kk + 1)) (pp) (n + 1) (nd2_253) := CA_ag (by omega) (Sg_fr hF502 (by decide)) (Ag_fr hF502 (by decide)) (congrFun (hF502.2 21 rfl) _) sf451
                        have sf510 : wA A499 Vs sb (pp + kk) (r249) (nd1) (nd2_253) := wA_ag (by omega) (Sg_fr hF502 (by decide)) (Ax_ag (Ag_fr hF502 (by decide))) sf452
                        have sf511 : NX A499 (r249) := NX_ag (by omega) (Ag_fr hF502 (by decide)) sf453
                        have ec512 : ecn A499 (G498 31) = ec2_255 := (ecn_f (hF502.2 15 rfl) (hF502.1 31 rfl)).trans ec454
                        have bfk2_500 : (0 : Int) ≤ fk2_500 ∧ fk2_500 ≤ 6 := e503 ▸ hW501.1 16
                        refine .inl ⟨rfl, ?_⟩
                        refine jx_ld (pc' := 187) (l' := L456) (st' := [.ref 66]) rfl (jl_aloadn gL456_0) ?_
                        refine jx_ar (pc' := 188) (st' := [.int (i32 (1)), .ref 66]) rfl rfl rfl rfl ?_
                        refine jx_vr (pc' := 191) (as := [.int (i32 (1))]) (st := []) rfl rfl rfl rfl ⟨rfl, rfl, Nat.le_of_ble_eq_true rfl⟩ rfl rfl (c_need (dd := d) (hd := by omega) (hW := hW501) (g := 1) (ln := ln) (e_ln := show G498 9 = ln from ((hF502.1 9 rfl).trans ((hF257.1 9 rfl).trans (fx_9)))) (le := le) (e_le := show A499 4 (ln).toNat = le from (congrFun ((hF502.2 4 rfl).trans (((congrFun eA445 4).trans (uA_ne (by decide))).trans ((hF257.2 4 rfl).trans (hFx.2 4 rfl)))) _).trans (e_le)) (at0 := at2_250) (e_at0 := show G498 10 = at2_250 from ((hF502.1 10 rfl).trans (e260))) (fk := fk2_500) (e_fk := show G498 16 = fk2_500 from (e503)) (tk0 := tk2_254) (e_tk0 := show G498 11 = tk2_254 from ((hF502.1 11 rfl).trans (e264)))  (h_g := ⟨(by decide), (by decide)⟩)  (p_0 := by omega)) (fun o V' hq => ?_)
                        obtain ⟨G513, A514, at2_515, tk2_516, fk2_517, rfl, rfl, hW518, hF519, e520, e521, e522, p523, p524, q525⟩ := hq
                        have hF526 := Fr_tr hF506 hF519 (Fr_sub (by decide)) (Fr_sub (by decide))
                        have hP527 := Pf_f hP507 hF519 (by decide)
                        have sf528 : ND A514 (n) (25) (nu) (0) (0) (0) (r249) (0) := ND_ag (by omega) (Ag_fr hF519 (by decide)) sf508
                        have sf529 : CA A514 Vs sb (n) (r249) ((kk + 1)) (pp) (n + 1) (nd2_253) := CA_ag (by omega) (Sg_fr hF519 (by decide)) (Ag_fr hF519 (by decide)) (congrFun (hF519.2 21 rfl) _) sf509
                        have sf530 : wA A514 Vs sb (pp + kk) (r249) (nd1) (nd2_253) := wA_ag (by omega) (Sg_fr hF519 (by decide)) (Ax_ag (Ag_fr hF519 (by decide))) sf510
                        have sf531 : NX A514 (r249) := NX_ag (by omega) (Ag_fr hF519 (by decide)) sf511
                        have ec532 : ecn A514 (G513 31) = ec2_255 := (ecn_f (hF519.2 15 rfl) (hF519.1 31 rfl)).trans ec512
                        have bat2_515 : (0 : Int) ≤ at2_515 ∧ at2_515 ≤ 3002 := e520 ▸ hW518.1 10
                        have ztk2_516 := tz_b tk2_516
                        have btk2_516 : (0 : Int) ≤ tk2_516 ∧ tk2_516 ≤ 5 := e521 ▸ hW518.1 11
                        have bfk2_517 : (0 : Int) ≤ fk2_517 ∧ fk2_517 ≤ 6 := e522 ▸ hW518.1 16
                        refine .inl ⟨rfl, ?_⟩
                        rcases q525 with ⟨a533, a534, a535, a536⟩ | ⟨a537, a538, a539, a540⟩
                        · have _q : True := trivial
                          refine jx_go (tg := 230) rfl rfl ?_
                          refine jx_go (tg := 88) rfl rfl ?_
                          have z541 := tz_f (tk2_516)
                          exact c_readCall_w_at_88p (X := X) (d := d) (Vs := Vs) (sb := sb) (pb := pb) (c0 := c0) (c1 := c1) (G := G) (A := A) (T := T) (s := s) (ln := ln) (le := le) (at0 := at0) (fk := fk) (op0 := op0) (nd := nd) (tk0 := tk0) (li := li) (kd := kd) (nu := nu) (mp := mp) (pp := pp) (ec := ec) (hd := hd) (hW := hW) (e_ln := e_ln) (e_le := e_le) (e_at0 := e_at0) (e_fk := e_fk) (e_op0 := e_op0) (e_nd := e_nd) (e_tk0 := e_tk0) (e_li := e_li) (e_kd := e_kd) (e_nu := e_nu) (e_mp := e_mp) (e_pp := e_pp) (e_ec := e_ec) (i_SV := i_SV) (i_PQ := i_PQ) (h_s := h_s) (p_0 := p_0) (p_1 := p_1) (p_2 := p_2) (p_3 := p_3) (p_4 := p_4) (p_5 := p_5) (p_6 := p_6) (p_7 := p_7) (p_8 := p_8) L456 G513 A514 (n) (many) (r249) ((kk + (1))) (at2_515) (tk2_516) (fk2_517) (nd2_253) (op2_252) (ec2_255) gL456_0 gL456_1 gL456_2 gL456_3 gL456_4 gL456_5 hW518 hF526 hP527 ((e520)) ((e521)) ((e522)) (((hF519.1 31 rfl).trans ((hF502.1 31 rfl).trans (e263)))) (((hF519.1 15 rfl).trans ((hF502.1 15 rfl).trans (e262)))) (ec532) (((hF519.1 9 rfl).trans ((hF502.1 9 rfl).trans ((hF257.1 9 rfl).trans (fx_9))))) (by omega) (by omega) (by omega) (by omega) (by omega) (by omega) (by omega) (by omega) (by omega) (by omega) (by omega)
                        · have _q : True := trivial
                          exfalso
                          omega
                  · have _q : True := trivial
                    refine jx_if_eq (pc' := 171) (tg := 194) rfl rfl rfl (by decide) (by decide) (fun h542 => ?_) (fun h542 => ?_)
                    · have _q := h542
                      refine jx_ld (pc' := 195) (l' := L456) (st' := [.ref 66]) rfl (jl_aloadn gL456_0) ?_
                      refine jx_ar (pc' := 197) (st' := [.int (i32 (41)), .ref 66]) rfl rfl rfl rfl ?_
                      refine jx_vr (pc' := 200) (as := [.int (i32 (41))]) (st := []) rfl rfl rfl rfl ⟨rfl, rfl, Nat.le_of_ble_eq_true rfl⟩ rfl rfl (c_is (dd := d) (hd := by omega) (hW := hW446) (k := 41) (tk := tk2_254) (e_tk := show G247 11 = tk2_254 from (e264)) (tn := G247 13) (e_tn := show G247 13 = G247 13 from rfl)  (h_k := ⟨(by decide), (by decide)⟩)  ) (fun o V' hq => ?_)
                      obtain ⟨r543, rfl, rfl, b544, q545⟩ := hq
                      refine .inr ⟨_, rfl, ?_⟩
                      rcases q545 with ⟨rfl, a546, a547, a548⟩ | rfl
                      · have _q : True := trivial
                        refine jx_if_eq (pc' := 203) (tg := 221) rfl rfl rfl (by decide) (by decide) (fun h549 => ?_) (fun h549 => ?_)
                        · have _q := h549
                          exact absurd h549 (by omega)
                        · have _q := h549
                          refine jx_ld (pc' := 205) (l' := L456) (st' := [.int (i32 ((kk + (1))))]) rfl (jl_iload gL456_5) ?_
                          refine jx_ld (pc' := 206) (l' := L456) (st' := [.int (i32 (many)), .int (i32 ((kk + (1))))]) rfl (jl_iloadn gL456_3) ?_
                          refine jx_icmp_ge (pc' := 209) (tg := 230) rfl rfl rfl (by omega) (by omega) (Int.le_trans (by decide : (-2147483648 : Int) ≤ -2147483648) rx_many.1) (Int.le_trans rx_many.2 (by decide : (2147483647 : Int) ≤ 2147483647)) (fun h550 => ?_) (fun h550 => ?_)
                          · have _q := h550
                            refine jx_go (tg := 88) rfl rfl ?_
                            have z551 := tz_f (tk2_254)
                            exact ih88 _ (by omega) L456 G247 A445 (n) (many) (r249) ((kk + (1))) (at2_250) (tk2_254) (fk2_251) (nd2_253) (op2_252) (ec2_255) rfl gL456_0 gL456_1 gL456_2 gL456_3 gL456_4 gL456_5 hW446 hF447 hP449 ((e260)) ((e264)) ((e261)) ((e263)) ((e262)) (ec454) (((hF257.1 9 rfl).trans (fx_9))) (by omega) (by omega) (by omega) (by omega) (by omega) (by omega) (by omega) (by omega) (by omega) (by omega) (by omega) (by omega) (by omega) (by omega) (by omega) (by omega) (by omega) (by omega) (by omega) ((ND_sf sf450)) ((CA_eq sf451 (by omega) (by omega) (by omega) (by omega) (by omega))) (by omega) (by omega)
                          · have _q := h550
                            refine jx_ld (pc' := 210) (l' := L456) (st' := [.ref 66]) rfl (jl_aloadn gL456_0) ?_
                            refine jx_ar (pc' := 211) (st' := [.int (i32 (4)), .ref 66]) rfl rfl rfl rfl ?_
                            refine jx_ld (pc' := 212) (l' := L456) (st' := [.ref 66, .int (i32 (4)), .ref 66]) rfl (jl_aloadn gL456_0) ?_
                            have b552 : (-3000 : Int) ≤ G247 12 ∧ G247 12 ≤ 3002 := hW256.1 12
                            refine jr_get (pc' := 215) (i := 12) (v := .int (i32 (G247 12))) rfl rfl (by decide) rfl rfl ?_
                            refine jx_vr (pc' := 218) (as := [.int (i32 (4)), .int (i32 (G247 12))]) (st := []) rfl rfl rfl rfl ⟨rfl, rfl, Nat.le_of_ble_eq_true rfl⟩ rfl rfl (c_fail (dd := d) (hd := by omega) (hW := hW446) (kind := 4) (place := G247 12) (fk := fk2_251) (e_fk := show G247 16 = fk2_251 from (e261))  (h_kind := ⟨(by decide), (by decide)⟩) (h_place := ⟨(Int.le_trans (by decide : (-2147483648 : Int) ≤ -3000) b552.1), (Int.le_trans b552.2 (by decide : (3002 : Int) ≤ 2147483647))⟩)  (p_0 := by omega) (p_1 := by omega)) (fun o V' hq => ?_)
                            obtain ⟨G553, A554, fk2_555, rfl, rfl, hW556, hF557, e558, p559, -⟩ := hq
                            have hF561 := Fr_tr hF447 hF557 (Fr_sub (by decide)) (Fr_sub (by decide))
                            have hP562 := Pf_f hP449 hF557 (by decide)
                            have sf563 : ND A554 (n) (25) (nu) (0) (0) (0) (r249) (0) := ND_ag (by omega) (Ag_fr hF557 (by decide)) sf450
                            have sf564 : CA A554 Vs sb (n) (r249) ((kk + 1)) (pp) (n + 1) (nd2_253) := CA_ag (by omega) (Sg_fr hF557 (by decide)) (Ag_fr hF557 (by decide)) (congrFun (hF557.2 21 rfl) _) sf451
                            have sf565 : wA A554 Vs sb (pp + kk) (r249) (nd1) (nd2_253) := wA_ag (by omega) (Sg_fr hF557 (by decide)) (Ax_ag (Ag_fr hF557 (by decide))) sf452
                            have sf566 : NX A554 (r249) := NX_ag (by omega) (Ag_fr hF557 (by decide)) sf453
                            have ec567 : ecn A554 (G553 31) = ec2_255 := (ecn_f (hF557.2 15 rfl) (hF557.1 31 rfl)).trans ec454
                            have bfk2_555 : (0 : Int) ≤ fk2_555 ∧ fk2_555 ≤ 6 := e558 ▸ hW556.1 16
                            refine .inl ⟨rfl, ?_⟩
                            refine jx_go (tg := 230) rfl rfl ?_
                            refine jx_go (tg := 88) rfl rfl ?_
                            have z568 := tz_f (tk2_254)
                            exact c_readCall_w_at_88p (X := X) (d := d) (Vs := Vs) (sb := sb) (pb := pb) (c0 := c0) (c1 := c1) (G := G) (A := A) (T := T) (s := s) (ln := ln) (le := le) (at0 := at0) (fk := fk) (op0 := op0) (nd := nd) (tk0 := tk0) (li := li) (kd := kd) (nu := nu) (mp := mp) (pp := pp) (ec := ec) (hd := hd) (hW := hW) (e_ln := e_ln) (e_le := e_le) (e_at0 := e_at0) (e_fk := e_fk) (e_op0 := e_op0) (e_nd := e_nd) (e_tk0 := e_tk0) (e_li := e_li) (e_kd := e_kd) (e_nu := e_nu) (e_mp := e_mp) (e_pp := e_pp) (e_ec := e_ec) (i_SV := i_SV) (i_PQ := i_PQ) (h_s := h_s) (p_0 := p_0) (p_1 := p_1) (p_2 := p_2) (p_3 := p_3) (p_4 := p_4) (p_5 := p_5) (p_6 := p_6) (p_7 := p_7) (p_8 := p_8) L456 G553 A554 (n) (many) (r249) ((kk + (1))) (at2_250) (tk2_254) (fk2_555) (nd2_253) (op2_252) (ec2_255) gL456_0 gL456_1 gL456_2 gL456_3 gL456_4 gL456_5 hW556 hF561 hP562 (((hF557.1 10 rfl).trans (e260))) (((hF557.1 11 rfl).trans (e264))) ((e558)) (((hF557.1 31 rfl).trans (e263))) (((hF557.1 15 rfl).trans (e262))) (ec567) (((hF557.1 9 rfl).trans ((hF257.1 9 rfl).trans (fx_9)))) (by omega) (by omega) (by omega) (by omega) (by omega) (by omega) (by omega) (by omega) (by omega) (by omega) (by omega)
                      · have _q : True := trivial
                        refine jx_if_eq (pc' := 203) (tg := 221) rfl rfl rfl (by decide) (by decide) (fun h569 => ?_) (fun h569 => ?_)
                        · have _q := h569
                          refine jx_ld (pc' := 222) (l' := L456) (st' := [.ref 66]) rfl (jl_aloadn gL456_0) ?_
                          refine jx_ar (pc' := 223) (st' := [.int (i32 (1)), .ref 66]) rfl rfl rfl rfl ?_
                          refine jx_ld (pc' := 224) (l' := L456) (st' := [.ref 66, .int (i32 (1)), .ref 66]) rfl (jl_aloadn gL456_0) ?_
                          have b570 : (-3000 : Int) ≤ G247 12 ∧ G247 12 ≤ 3002 := hW256.1 12
                          refine jr_get (pc' := 227) (i := 12) (v := .int (i32 (G247 12))) rfl rfl (by decide) rfl rfl ?_
                          refine jx_vr (pc' := 230) (as := [.int (i32 (1)), .int (i32 (G247 12))]) (st := []) rfl rfl rfl rfl ⟨rfl, rfl, Nat.le_of_ble_eq_true rfl⟩ rfl rfl (c_fail (dd := d) (hd := by omega) (hW := hW446) (kind := 1) (place := G247 12) (fk := fk2_251) (e_fk := show G247 16 = fk2_251 from (e261))  (h_kind := ⟨(by decide), (by decide)⟩) (h_place := ⟨(Int.le_trans (by decide : (-2147483648 : Int) ≤ -3000) b570.1), (Int.le_trans b570.2 (by decide : (3002 : Int) ≤ 2147483647))⟩)  (p_0 := by omega) (p_1 := by omega)) (fun o V' hq => ?_)
                          obtain ⟨G571, A572, fk2_573, rfl, rfl, hW574, hF575, e576, p577, -⟩ := hq
                          have hF579 := Fr_tr hF447 hF575 (Fr_sub (by decide)) (Fr_sub (by decide))
                          have hP580 := Pf_f hP449 hF575 (by decide)
                          have sf581 : ND A572 (n) (25) (nu) (0) (0) (0) (r249) (0) := ND_ag (by omega) (Ag_fr hF575 (by decide)) sf450
                          have sf582 : CA A572 Vs sb (n) (r249) ((kk + 1)) (pp) (n + 1) (nd2_253) := CA_ag (by omega) (Sg_fr hF575 (by decide)) (Ag_fr hF575 (by decide)) (congrFun (hF575.2 21 rfl) _) sf451
                          have sf583 : wA A572 Vs sb (pp + kk) (r249) (nd1) (nd2_253) := wA_ag (by omega) (Sg_fr hF575 (by decide)) (Ax_ag (Ag_fr hF575 (by decide))) sf452
                          have sf584 : NX A572 (r249) := NX_ag (by omega) (Ag_fr hF575 (by decide)) sf453
                          have ec585 : ecn A572 (G571 31) = ec2_255 := (ecn_f (hF575.2 15 rfl) (hF575.1 31 rfl)).trans ec454
                          have bfk2_573 : (0 : Int) ≤ fk2_573 ∧ fk2_573 ≤ 6 := e576 ▸ hW574.1 16
                          refine .inl ⟨rfl, ?_⟩
                          refine jx_go (tg := 88) rfl rfl ?_
                          have z586 := tz_f (tk2_254)
                          exact c_readCall_w_at_88p (X := X) (d := d) (Vs := Vs) (sb := sb) (pb := pb) (c0 := c0) (c1 := c1) (G := G) (A := A) (T := T) (s := s) (ln := ln) (le := le) (at0 := at0) (fk := fk) (op0 := op0) (nd := nd) (tk0 := tk0) (li := li) (kd := kd) (nu := nu) (mp := mp) (pp := pp) (ec := ec) (hd := hd) (hW := hW) (e_ln := e_ln) (e_le := e_le) (e_at0 := e_at0) (e_fk := e_fk) (e_op0 := e_op0) (e_nd := e_nd) (e_tk0 := e_tk0) (e_li := e_li) (e_kd := e_kd) (e_nu := e_nu) (e_mp := e_mp) (e_pp := e_pp) (e_ec := e_ec) (i_SV := i_SV) (i_PQ := i_PQ) (h_s := h_s) (p_0 := p_0) (p_1 := p_1) (p_2 := p_2) (p_3 := p_3) (p_4 := p_4) (p_5 := p_5) (p_6 := p_6) (p_7 := p_7) (p_8 := p_8) L456 G571 A572 (n) (many) (r249) ((kk + (1))) (at2_250) (tk2_254) (fk2_573) (nd2_253) (op2_252) (ec2_255) gL456_0 gL456_1 gL456_2 gL456_3 gL456_4 gL456_5 hW574 hF579 hP580 (((hF575.1 10 rfl).trans (e260))) (((hF575.1 11 rfl).trans (e264))) ((e576)) (((hF575.1 31 rfl).trans (e263))) (((hF575.1 15 rfl).trans (e262))) (ec585) (((hF575.1 9 rfl).trans ((hF257.1 9 rfl).trans (fx_9)))) (by omega) (by omega) (by omega) (by omega) (by omega) (by omega) (by omega) (by omega) (by omega) (by omega) (by omega)
                        · have _q := h569
                          exact absurd h569 (by omega)
                    · have _q := h542
                      exact absurd h542 (by omega)
              · have _q := h301
                exact absurd h301 (by omega)
set_option maxRecDepth 20000 in
set_option maxHeartbeats 4000000 in
theorem c_readCall_w_at_57 {X : jX} {d : Nat} {Vs : Nat → Prop} {sb pb : Int} {c0 c1 : jC} {G : Nat → Int} {A : Nat → Nat → Int} {T : jH} {s : Int} {ln le at0 fk op0 nd tk0 li kd nu mp pp ec : Int} (hd : 71 ≤ d + 1) (hW : Wk G A) (e_ln : G 9 = ln) (e_le : A 4 (ln).toNat = le) (e_at0 : G 10 = at0) (e_fk : G 16 = fk) (e_op0 : G 15 = op0) (e_nd : G 31 = nd) (e_tk0 : G 11 = tk0) (e_li : G 3 = li) (e_kd : A 7 (s).toNat = kd) (e_nu : A 12 (s).toNat = nu) (e_mp : A 30 (nu).toNat = mp) (e_pp : A 29 (nu).toNat = pp) (e_ec : ecn A (G 31) = ec) (i_SV : SV Vs sb G A) (i_PQ : PQ Vs sb pb G A) (h_s : (-2147483648 : Int) ≤ s ∧ s ≤ 2147483647) (p_0 : 0 ≤ op0 ∧ op0 ≤ 8) (p_1 : fk = 0) (p_2 : nd ≤ 2 * at0 - tz tk0 + 42) (p_3 : at0 ≤ le) (p_4 : ln < li) (p_5 : 0 ≤ s ∧ s ≤ 201) (p_6 : 1 ≤ tk0) (p_7 : kd = 14) (p_8 : SY Vs sb (s)) : ∀ (L : jL) (Gx : Nat → Int) (Ax : Nat → Nat → Int) (n many at1 tk1 fk1 nd1 op1 ec1 : Int), jGet L 0 = some (.ref 66) → jGet L 1 = some (.int (i32 (s))) → jGet L 2 = some (.int (i32 n)) → jGet L 3 = some (.int (i32 many)) → Wk Gx Ax → Fr [9, 10, 11, 12, 13, 14, 15, 16, 17, 18, 31] [15, 16, 17, 18, 19, 20, 21, 22, 24, 28] G A Gx Ax → Pf nd A Ax → Gx 10 = at1 → Gx 11 = tk1 → Gx 16 = fk1 → Gx 31 = nd1 → Gx 15 = op1 → ecn Ax (Gx 31) = ec1 → Gx 9 = ln → ((-2147483648 : Int) ≤ n ∧ n ≤ 2147483647) → ((-2147483648 : Int) ≤ many ∧ many ≤ 2147483647) → (fk1 = 0) → (at0 ≤ at1) → (at1 ≤ le) → (nd ≤ n ∧ n ≤ 6998) → (nd ≤ nd1 ∧ n < nd1) → (0 ≤ many ∧ many ≤ 6) → (op1 = op0 + 1) → (op1 ≤ 8) → (nd1 - nd ≤ (2 * at1 - tz tk1) - (2 * at0 - tz tk0)) → (many = mp) → (1 ≤ many) → (nd1 = n + 1) → (ND Ax (n) (25) (nu) (0) (0) (0) (0) (0)) → (nd1 - nd + 5 * (ec1 - ec) ≤ (2 * at1 - tz tk1) - (2 * at0 - tz tk0)) → wj X d jm305 (57, L, [], rV c0 c1 Gx Ax T) (fun o V' => ∃ (G' : Nat → Int) (A' : Nat → Nat → Int) (r : Int) (at2 : Int) (fk2 : Int) (nd2 : Int) (ln2 : Int) (ec2 : Int), V' = rV c0 c1 G' A' T ∧ o = .inl (some (.int (i32 r))) ∧ Wk G' A' ∧ Fr [9, 10, 11, 12, 13, 14, 15, 16, 17, 18, 31] [15, 16, 17, 18, 19, 20, 21, 22, 24, 28] G A G' A' ∧ Pf nd A A' ∧ ((-2147483648 : Int) ≤ r ∧ r ≤ 2147483647) ∧ G' 10 = at2 ∧ G' 16 = fk2 ∧ G' 31 = nd2 ∧ G' 9 = ln2 ∧ ecn A' (G' 31) = ec2 ∧ (at0 ≤ at2) ∧ (at2 ≤ le) ∧ (nd ≤ nd2) ∧ (0 ≤ r) ∧ (r ≤ nd2) ∧ (((1 ≤ fk2) ∧ (ln2 = ln) ∧ (nd2 - nd ≤ 2 * at2 - 2 * at0 + 8)) ∨ ((fk2 = 0) ∧ (ln2 = ln + 1) ∧ (nd2 - nd ≤ 2 * at2 - (2 * at0 - tz tk0) + 0) ∧ (nd ≤ r) ∧ (r < nd2) ∧ (wL A' sb pb Vs (r) (nd) (nd2)) ∧ (NX A' (r)) ∧ (nd2 - nd + 5 * (ec2 - ec) ≤ 2 * at2 - (2 * at0 - tz tk0) + 0)))) := by
  have hF0 : Fr [9, 10, 11, 12, 13, 14, 15, 16, 17, 18, 31] [15, 16, 17, 18, 19, 20, 21, 22, 24, 28] G A G A := Fr_rf
  have hP0 : Pf nd A A := Pf_rf
  have b_ln : (0 : Int) ≤ ln ∧ ln ≤ 3000 := e_ln ▸ hW.1 9
  have b_le : (0 : Int) ≤ le ∧ le ≤ 3000 := e_le ▸ hW.2 4 _
  have b_at0 : (0 : Int) ≤ at0 ∧ at0 ≤ 3002 := e_at0 ▸ hW.1 10
  have b_fk : (0 : Int) ≤ fk ∧ fk ≤ 6 := e_fk ▸ hW.1 16
  have b_op0 : (-2147483648 : Int) ≤ op0 ∧ op0 ≤ 2147483647 := e_op0 ▸ hW.1 15
  have b_nd : (0 : Int) ≤ nd ∧ nd ≤ 6999 := e_nd ▸ hW.1 31
  have z_tk0 := tz_f tk0
  have b_tk0 : (0 : Int) ≤ tk0 ∧ tk0 ≤ 5 := e_tk0 ▸ hW.1 11
  have b_li : (0 : Int) ≤ li ∧ li ≤ 3000 := e_li ▸ hW.1 3
  have b_kd : (0 : Int) ≤ kd ∧ kd ≤ 14 := e_kd ▸ hW.2 7 _
  have b_nu : (0 : Int) ≤ nu ∧ nu ≤ 24 := e_nu ▸ hW.2 12 _
  have b_mp : (0 : Int) ≤ mp ∧ mp ≤ 6 := e_mp ▸ hW.2 30 _
  have b_pp : (0 : Int) ≤ pp ∧ pp ≤ 202 := e_pp ▸ hW.2 29 _
  have pq := PQ_at i_PQ p_8 (e_kd.trans (by omega)) e_nu e_mp e_pp
  intro L Gx Ax n many at1 tk1 fk1 nd1 op1 ec1 gL_0 gL_1 gL_2 gL_3 hWx hFx hPx ex_at1 ex_tk1 ex_fk1 ex_nd1 ex_op1 ex_ec1 fx_9 rx_n rx_many iv_0 iv_1 iv_2 iv_3 iv_4 iv_5 iv_6 iv_7 iv_8 iv_9 iv_10 iv_11 iv_12 iv_13
  have b_at1 : (0 : Int) ≤ at1 ∧ at1 ≤ 3002 := ex_at1 ▸ hWx.1 10
  have z_tk1 := tz_f tk1
  have b_tk1 : (0 : Int) ≤ tk1 ∧ tk1 ≤ 5 := ex_tk1 ▸ hWx.1 11
  have b_fk1 : (0 : Int) ≤ fk1 ∧ fk1 ≤ 6 := ex_fk1 ▸ hWx.1 16
  have b_nd1 : (0 : Int) ≤ nd1 ∧ nd1 ≤ 6999 := ex_nd1 ▸ hWx.1 31
  have b_op1 : (-2147483648 : Int) ≤ op1 ∧ op1 ≤ 2147483647 := ex_op1 ▸ hWx.1 15
  refine jx_ld (pc' := 58) (l' := L) (st' := [.ref 66]) rfl (jl_aloadn gL_0) ?_
  refine jx_vr (pc' := 61) (as := []) (st := []) rfl rfl rfl rfl ⟨rfl, rfl, Nat.le_of_ble_eq_true rfl⟩ rfl rfl (c_bad (dd := d) (hd := by omega) (hW := hWx)  (fk := fk1) (e_fk := show Gx 16 = fk1 from (ex_fk1))    ) (fun o V' hq => ?_)
  obtain ⟨r587, rfl, rfl, b588, q589⟩ := hq
  refine .inr ⟨_, rfl, ?_⟩
  rcases q589 with ⟨rfl, a590⟩ | ⟨rfl, a591⟩
  · have _q : True := trivial
    exfalso
    omega
  · have _q : True := trivial
    refine jx_if_ne (pc' := 64) (tg := 82) rfl rfl rfl (by decide) (by decide) (fun h592 => ?_) (fun h592 => ?_)
    · have _q := h592
      exact absurd h592 (by omega)
    · have _q := h592
      refine jx_ld (pc' := 65) (l' := L) (st' := [.ref 66]) rfl (jl_aloadn gL_0) ?_
      refine jx_ar (pc' := 67) (st' := [.int (i32 (41)), .ref 66]) rfl rfl rfl rfl ?_
      have b593 : (-2147483648 : Int) ≤ Gx 13 ∧ Gx 13 ≤ 2147483647 := hWx.1 13
      refine jx_vr (pc' := 70) (as := [.int (i32 (41))]) (st := []) rfl rfl rfl rfl ⟨rfl, rfl, Nat.le_of_ble_eq_true rfl⟩ rfl rfl (c_is (dd := d) (hd := by omega) (hW := hWx) (k := 41) (tk := tk1) (e_tk := show Gx 11 = tk1 from (ex_tk1)) (tn := Gx 13) (e_tn := show Gx 13 = Gx 13 from rfl)  (h_k := ⟨(by decide), (by decide)⟩)  ) (fun o V' hq => ?_)
      obtain ⟨r594, rfl, rfl, b595, q596⟩ := hq
      refine .inr ⟨_, rfl, ?_⟩
      rcases q596 with ⟨rfl, a597, a598, a599⟩ | rfl
      · have _q : True := trivial
        refine jx_if_eq (pc' := 73) (tg := 82) rfl rfl rfl (by decide) (by decide) (fun h600 => ?_) (fun h600 => ?_)
        · have _q := h600
          exact absurd h600 (by omega)
        · have _q := h600
          refine jx_ld (pc' := 74) (l' := L) (st' := [.ref 66]) rfl (jl_aloadn gL_0) ?_
          refine jx_ar (pc' := 75) (st' := [.int (i32 (4)), .ref 66]) rfl rfl rfl rfl ?_
          refine jx_ld (pc' := 76) (l' := L) (st' := [.ref 66, .int (i32 (4)), .ref 66]) rfl (jl_aloadn gL_0) ?_
          have b601 : (-3000 : Int) ≤ Gx 12 ∧ Gx 12 ≤ 3002 := hWx.1 12
          refine jr_get (pc' := 79) (i := 12) (v := .int (i32 (Gx 12))) rfl rfl (by decide) rfl rfl ?_
          refine jx_vr (pc' := 82) (as := [.int (i32 (4)), .int (i32 (Gx 12))]) (st := []) rfl rfl rfl rfl ⟨rfl, rfl, Nat.le_of_ble_eq_true rfl⟩ rfl rfl (c_fail (dd := d) (hd := by omega) (hW := hWx) (kind := 4) (place := Gx 12) (fk := fk1) (e_fk := show Gx 16 = fk1 from (ex_fk1))  (h_kind := ⟨(by decide), (by decide)⟩) (h_place := ⟨(Int.le_trans (by decide : (-2147483648 : Int) ≤ -3000) b601.1), (Int.le_trans b601.2 (by decide : (3002 : Int) ≤ 2147483647))⟩)  (p_0 := by omega) (p_1 := by omega)) (fun o V' hq => ?_)
          obtain ⟨G602, A603, fk2_604, rfl, rfl, hW605, hF606, e607, p608, -⟩ := hq
          have hF610 := Fr_tr hFx hF606 (Fr_sub (by decide)) (Fr_sub (by decide))
          have hP611 := Pf_f hPx hF606 (by decide)
          have sf612 : ND A603 (n) (25) (nu) (0) (0) (0) (0) (0) := ND_ag (by omega) (Ag_fr hF606 (by decide)) iv_12
          have ec613 : ecn A603 (G602 31) = ec1 := (ecn_f (hF606.2 15 rfl) (hF606.1 31 rfl)).trans ex_ec1
          have bfk2_604 : (0 : Int) ≤ fk2_604 ∧ fk2_604 ≤ 6 := e607 ▸ hW605.1 16
          refine .inl ⟨rfl, ?_⟩
          refine jx_ar (pc' := 83) (st' := [.int (i32 (0))]) rfl rfl rfl rfl ?_
          refine jx_ld (pc' := 85) (l' := jSto1 L 4 (.int (i32 (0)))) (st' := []) rfl rfl ?_
          obtain ⟨L614, eL614⟩ : ∃ q, q = jSto1 L 4 (.int (i32 (0))) := ⟨_, rfl⟩
          rw [← eL614]
          have gL614_0 : jGet L614 0 = some (.ref 66) := eL614 ▸ jg_ne (by decide) gL_0 rfl
          have gL614_1 : jGet L614 1 = some (.int (i32 (s))) := eL614 ▸ jg_ne (by decide) gL_1 rfl
          have gL614_2 : jGet L614 2 = some (.int (i32 (n))) := eL614 ▸ jg_ne (by decide) gL_2 rfl
          have gL614_3 : jGet L614 3 = some (.int (i32 (many))) := eL614 ▸ jg_ne (by decide) gL_3 rfl
          have gL614_4 : jGet L614 4 = some (.int (i32 (0))) := eL614 ▸ jg_eq
          refine jx_ar (pc' := 86) (st' := [.int (i32 (0))]) rfl rfl rfl rfl ?_
          refine jx_ld (pc' := 88) (l' := jSto1 L614 5 (.int (i32 (0)))) (st' := []) rfl rfl ?_
          obtain ⟨L615, eL615⟩ : ∃ q, q = jSto1 L614 5 (.int (i32 (0))) := ⟨_, rfl⟩
          rw [← eL615]
          have gL615_0 : jGet L615 0 = some (.ref 66) := eL615 ▸ jg_ne (by decide) gL614_0 rfl
          have gL615_1 : jGet L615 1 = some (.int (i32 (s))) := eL615 ▸ jg_ne (by decide) gL614_1 rfl
          have gL615_2 : jGet L615 2 = some (.int (i32 (n))) := eL615 ▸ jg_ne (by decide) gL614_2 rfl
          have gL615_3 : jGet L615 3 = some (.int (i32 (many))) := eL615 ▸ jg_ne (by decide) gL614_3 rfl
          have gL615_4 : jGet L615 4 = some (.int (i32 (0))) := eL615 ▸ jg_ne (by decide) gL614_4 rfl
          have gL615_5 : jGet L615 5 = some (.int (i32 (0))) := eL615 ▸ jg_eq
          have z616 := tz_f (tk1)
          exact c_readCall_w_at_88p (X := X) (d := d) (Vs := Vs) (sb := sb) (pb := pb) (c0 := c0) (c1 := c1) (G := G) (A := A) (T := T) (s := s) (ln := ln) (le := le) (at0 := at0) (fk := fk) (op0 := op0) (nd := nd) (tk0 := tk0) (li := li) (kd := kd) (nu := nu) (mp := mp) (pp := pp) (ec := ec) (hd := hd) (hW := hW) (e_ln := e_ln) (e_le := e_le) (e_at0 := e_at0) (e_fk := e_fk) (e_op0 := e_op0) (e_nd := e_nd) (e_tk0 := e_tk0) (e_li := e_li) (e_kd := e_kd) (e_nu := e_nu) (e_mp := e_mp) (e_pp := e_pp) (e_ec := e_ec) (i_SV := i_SV) (i_PQ := i_PQ) (h_s := h_s) (p_0 := p_0) (p_1 := p_1) (p_2 := p_2) (p_3 := p_3) (p_4 := p_4) (p_5 := p_5) (p_6 := p_6) (p_7 := p_7) (p_8 := p_8) L615 G602 A603 (n) (many) (0) (0) (at1) (tk1) (fk2_604) (nd1) (op1) (ec1) gL615_0 gL615_1 gL615_2 gL615_3 gL615_4 gL615_5 hW605 hF610 hP611 (((hF606.1 10 rfl).trans (ex_at1))) (((hF606.1 11 rfl).trans (ex_tk1))) ((e607)) (((hF606.1 31 rfl).trans (ex_nd1))) (((hF606.1 15 rfl).trans (ex_op1))) (ec613) (((hF606.1 9 rfl).trans (fx_9))) (by omega) (by omega) (by omega) (by omega) (by omega) (by omega) (by omega) (by omega) (by omega) (by omega) (by omega)
      · have _q : True := trivial
        refine jx_if_eq (pc' := 73) (tg := 82) rfl rfl rfl (by decide) (by decide) (fun h617 => ?_) (fun h617 => ?_)
        · have _q := h617
          refine jx_ar (pc' := 83) (st' := [.int (i32 (0))]) rfl rfl rfl rfl ?_
          refine jx_ld (pc' := 85) (l' := jSto1 L 4 (.int (i32 (0)))) (st' := []) rfl rfl ?_
          obtain ⟨L618, eL618⟩ : ∃ q, q = jSto1 L 4 (.int (i32 (0))) := ⟨_, rfl⟩
          rw [← eL618]
          have gL618_0 : jGet L618 0 = some (.ref 66) := eL618 ▸ jg_ne (by decide) gL_0 rfl
          have gL618_1 : jGet L618 1 = some (.int (i32 (s))) := eL618 ▸ jg_ne (by decide) gL_1 rfl
          have gL618_2 : jGet L618 2 = some (.int (i32 (n))) := eL618 ▸ jg_ne (by decide) gL_2 rfl
          have gL618_3 : jGet L618 3 = some (.int (i32 (many))) := eL618 ▸ jg_ne (by decide) gL_3 rfl
          have gL618_4 : jGet L618 4 = some (.int (i32 (0))) := eL618 ▸ jg_eq
          refine jx_ar (pc' := 86) (st' := [.int (i32 (0))]) rfl rfl rfl rfl ?_
          refine jx_ld (pc' := 88) (l' := jSto1 L618 5 (.int (i32 (0)))) (st' := []) rfl rfl ?_
          obtain ⟨L619, eL619⟩ : ∃ q, q = jSto1 L618 5 (.int (i32 (0))) := ⟨_, rfl⟩
          rw [← eL619]
          have gL619_0 : jGet L619 0 = some (.ref 66) := eL619 ▸ jg_ne (by decide) gL618_0 rfl
          have gL619_1 : jGet L619 1 = some (.int (i32 (s))) := eL619 ▸ jg_ne (by decide) gL618_1 rfl
          have gL619_2 : jGet L619 2 = some (.int (i32 (n))) := eL619 ▸ jg_ne (by decide) gL618_2 rfl
          have gL619_3 : jGet L619 3 = some (.int (i32 (many))) := eL619 ▸ jg_ne (by decide) gL618_3 rfl
          have gL619_4 : jGet L619 4 = some (.int (i32 (0))) := eL619 ▸ jg_ne (by decide) gL618_4 rfl
          have gL619_5 : jGet L619 5 = some (.int (i32 (0))) := eL619 ▸ jg_eq
          have z620 := tz_f (tk1)
          exact c_readCall_w_at_88 (X := X) (d := d) (Vs := Vs) (sb := sb) (pb := pb) (c0 := c0) (c1 := c1) (G := G) (A := A) (T := T) (s := s) (ln := ln) (le := le) (at0 := at0) (fk := fk) (op0 := op0) (nd := nd) (tk0 := tk0) (li := li) (kd := kd) (nu := nu) (mp := mp) (pp := pp) (ec := ec) (hd := hd) (hW := hW) (e_ln := e_ln) (e_le := e_le) (e_at0 := e_at0) (e_fk := e_fk) (e_op0 := e_op0) (e_nd := e_nd) (e_tk0 := e_tk0) (e_li := e_li) (e_kd := e_kd) (e_nu := e_nu) (e_mp := e_mp) (e_pp := e_pp) (e_ec := e_ec) (i_SV := i_SV) (i_PQ := i_PQ) (h_s := h_s) (p_0 := p_0) (p_1 := p_1) (p_2 := p_2) (p_3 := p_3) (p_4 := p_4) (p_5 := p_5) (p_6 := p_6) (p_7 := p_7) (p_8 := p_8) _ L619 Gx Ax (n) (many) (0) (0) (at1) (tk1) (fk1) (nd1) (op1) (ec1) rfl gL619_0 gL619_1 gL619_2 gL619_3 gL619_4 gL619_5 hWx hFx hPx ((ex_at1)) ((ex_tk1)) ((ex_fk1)) ((ex_nd1)) ((ex_op1)) (ex_ec1) ((fx_9)) (by omega) (by omega) (by omega) (by omega) (by omega) (by omega) (by omega) (by omega) (by omega) (by omega) (by omega) (by omega) (by omega) (by omega) (by omega) (by omega) (by omega) (by omega) (by omega) ((ND_sf iv_12)) ((CA_eq (CA_nil (lo := n + 1) (ND_f0 iv_12)) (by omega) (by omega) (by omega) (by omega) (by omega))) (by omega) (by omega)
        · have _q := h617
          exact absurd h617 (by omega)
set_option maxRecDepth 20000 in
set_option maxHeartbeats 4000000 in
theorem c_readCall_w {X : jX} {dd : Nat} {Vs : Nat → Prop} {sb pb : Int} {c0 c1 : jC} {G : Nat → Int} {A : Nat → Nat → Int} {T : jH} {s : Int} {ln le at0 fk op0 nd tk0 li kd nu mp pp ec : Int} (hd : 71 ≤ dd) (hW : Wk G A) (e_ln : G 9 = ln) (e_le : A 4 (ln).toNat = le) (e_at0 : G 10 = at0) (e_fk : G 16 = fk) (e_op0 : G 15 = op0) (e_nd : G 31 = nd) (e_tk0 : G 11 = tk0) (e_li : G 3 = li) (e_kd : A 7 (s).toNat = kd) (e_nu : A 12 (s).toNat = nu) (e_mp : A 30 (nu).toNat = mp) (e_pp : A 29 (nu).toNat = pp) (e_ec : ecn A (G 31) = ec) (i_SV : SV Vs sb G A) (i_PQ : PQ Vs sb pb G A) (h_s : (-2147483648 : Int) ≤ s ∧ s ≤ 2147483647) (p_0 : 0 ≤ op0 ∧ op0 ≤ 8) (p_1 : fk = 0) (p_2 : nd ≤ 2 * at0 - tz tk0 + 42) (p_3 : at0 ≤ le) (p_4 : ln < li) (p_5 : 0 ≤ s ∧ s ≤ 201) (p_6 : 1 ≤ tk0) (p_7 : kd = 14) (p_8 : SY Vs sb (s)) : wk X dd 305 [.ref 66, .int (i32 s)] (rV c0 c1 G A T) (fun o V' => ∃ (G' : Nat → Int) (A' : Nat → Nat → Int) (r : Int) (at2 : Int) (fk2 : Int) (nd2 : Int) (ln2 : Int) (ec2 : Int), V' = rV c0 c1 G' A' T ∧ o = .inl (some (.int (i32 r))) ∧ Wk G' A' ∧ Fr [9, 10, 11, 12, 13, 14, 15, 16, 17, 18, 31] [15, 16, 17, 18, 19, 20, 21, 22, 24, 28] G A G' A' ∧ Pf nd A A' ∧ ((-2147483648 : Int) ≤ r ∧ r ≤ 2147483647) ∧ G' 10 = at2 ∧ G' 16 = fk2 ∧ G' 31 = nd2 ∧ G' 9 = ln2 ∧ ecn A' (G' 31) = ec2 ∧ (at0 ≤ at2) ∧ (at2 ≤ le) ∧ (nd ≤ nd2) ∧ (0 ≤ r) ∧ (r ≤ nd2) ∧ (((1 ≤ fk2) ∧ (ln2 = ln) ∧ (nd2 - nd ≤ 2 * at2 - 2 * at0 + 8)) ∨ ((fk2 = 0) ∧ (ln2 = ln + 1) ∧ (nd2 - nd ≤ 2 * at2 - (2 * at0 - tz tk0) + 0) ∧ (nd ≤ r) ∧ (r < nd2) ∧ (wL A' sb pb Vs (r) (nd) (nd2)) ∧ (NX A' (r)) ∧ (nd2 - nd + 5 * (ec2 - ec) ≤ 2 * at2 - (2 * at0 - tz tk0) + 0)))) := by
  obtain ⟨d, rfl⟩ : ∃ d, dd = d + 1 := ⟨dd - 1, by omega⟩
  refine wk_of (e := jm305) rfl (Nat.le_of_ble_eq_true rfl) ?_
  show wj X d jm305 (0, [(0, .ref 66), (1, .int (i32 (s)))], [], rV c0 c1 G A T) _
  have hF0 : Fr [9, 10, 11, 12, 13, 14, 15, 16, 17, 18, 31] [15, 16, 17, 18, 19, 20, 21, 22, 24, 28] G A G A := Fr_rf
  have hP0 : Pf nd A A := Pf_rf
  have b_ln : (0 : Int) ≤ ln ∧ ln ≤ 3000 := e_ln ▸ hW.1 9
  have b_le : (0 : Int) ≤ le ∧ le ≤ 3000 := e_le ▸ hW.2 4 _
  have b_at0 : (0 : Int) ≤ at0 ∧ at0 ≤ 3002 := e_at0 ▸ hW.1 10
  have b_fk : (0 : Int) ≤ fk ∧ fk ≤ 6 := e_fk ▸ hW.1 16
  have b_op0 : (-2147483648 : Int) ≤ op0 ∧ op0 ≤ 2147483647 := e_op0 ▸ hW.1 15
  have b_nd : (0 : Int) ≤ nd ∧ nd ≤ 6999 := e_nd ▸ hW.1 31
  have z_tk0 := tz_f tk0
  have b_tk0 : (0 : Int) ≤ tk0 ∧ tk0 ≤ 5 := e_tk0 ▸ hW.1 11
  have b_li : (0 : Int) ≤ li ∧ li ≤ 3000 := e_li ▸ hW.1 3
  have b_kd : (0 : Int) ≤ kd ∧ kd ≤ 14 := e_kd ▸ hW.2 7 _
  have b_nu : (0 : Int) ≤ nu ∧ nu ≤ 24 := e_nu ▸ hW.2 12 _
  have b_mp : (0 : Int) ≤ mp ∧ mp ≤ 6 := e_mp ▸ hW.2 30 _
  have b_pp : (0 : Int) ≤ pp ∧ pp ≤ 202 := e_pp ▸ hW.2 29 _
  have pq := PQ_at i_PQ p_8 (e_kd.trans (by omega)) e_nu e_mp e_pp
  refine jx_ld (pc' := 1) (l' := [(0, .ref 66), (1, .int (i32 (s)))]) (st' := [.ref 66]) rfl (jl_aloadn rfl) ?_
  refine jx_ar (pc' := 3) (st' := [.int (i32 (25)), .ref 66]) rfl rfl rfl rfl ?_
  refine jx_ld (pc' := 4) (l' := [(0, .ref 66), (1, .int (i32 (s)))]) (st' := [.ref 66, .int (i32 (25)), .ref 66]) rfl (jl_aloadn rfl) ?_
  refine jr_get (pc' := 7) (i := 26) (v := .ref 79) rfl rfl (by decide) rfl rfl ?_
  refine jx_ld (pc' := 8) (l' := [(0, .ref 66), (1, .int (i32 (s)))]) (st' := [.int (i32 (s)), .ref 79, .int (i32 (25)), .ref 66]) rfl (jl_iloadn rfl) ?_
  refine jr_ldv (pc' := 9) (i := 12) (m := 260) (z := s) (y := nu) rfl (by decide) rfl (by decide) (by omega) (by omega) rfl (show A 12 (s).toNat = nu from (e_nu)) ?_
  refine jx_ar (pc' := 10) (st' := [.int (i32 (0)), .int (i32 (nu)), .int (i32 (25)), .ref 66]) rfl rfl rfl rfl ?_
  refine jx_ar (pc' := 11) (st' := [.int (i32 (0)), .int (i32 (0)), .int (i32 (nu)), .int (i32 (25)), .ref 66]) rfl rfl rfl rfl ?_
  refine jx_ar (pc' := 12) (st' := [.int (i32 (0)), .int (i32 (0)), .int (i32 (0)), .int (i32 (nu)), .int (i32 (25)), .ref 66]) rfl rfl rfl rfl ?_
  refine jx_vr (pc' := 15) (as := [.int (i32 (25)), .int (i32 (nu)), .int (i32 (0)), .int (i32 (0)), .int (i32 (0))]) (st := []) rfl rfl rfl rfl ⟨rfl, rfl, Nat.le_of_ble_eq_true rfl⟩ rfl rfl (c_node_o (dd := d) (hd := by omega) (hW := hW) (kind := 25) (a := nu) (b := 0) (c := 0) (e := 0) (nd := nd) (e_nd := show G 31 = nd from (e_nd)) (ec := ec) (e_ec := show ecn A (G 31) = ec from e_ec)  (h_kind := ⟨(by decide), (by decide)⟩) (h_a := ⟨(Int.le_trans (by decide : (-2147483648 : Int) ≤ 0) b_nu.1), (Int.le_trans b_nu.2 (by decide : (24 : Int) ≤ 2147483647))⟩) (h_b := ⟨(by decide), (by decide)⟩) (h_c := ⟨(by decide), (by decide)⟩) (h_e := ⟨(by decide), (by decide)⟩)  (p_0 := by omega) (p_1 := by omega) (p_2 := by omega)) (fun o V' hq => ?_)
  obtain ⟨G621, A622, nd2_623, ec2_624, rfl, rfl, hW625, hF626, hQ627, e628, e629, p630, p631, p632, -⟩ := hq
  have hF634 := Fr_tr hF0 hF626 (Fr_sub (by decide)) (Fr_sub (by decide))
  have hP635 := Pf_tr hP0 hQ627 (by omega)
  have bnd2_623 : (0 : Int) ≤ nd2_623 ∧ nd2_623 ≤ 6999 := e628 ▸ hW625.1 31
  refine .inr ⟨_, rfl, ?_⟩
  refine jx_ld (pc' := 16) (l' := jSto1 [(0, .ref 66), (1, .int (i32 (s)))] 2 (.int (i32 (nd)))) (st' := []) rfl rfl ?_
  obtain ⟨L636, eL636⟩ : ∃ q, q = jSto1 [(0, .ref 66), (1, .int (i32 (s)))] 2 (.int (i32 (nd))) := ⟨_, rfl⟩
  rw [← eL636]
  have gL636_0 : jGet L636 0 = some (.ref 66) := eL636 ▸ jg_ne (by decide) (rfl : jGet [(0, .ref 66), (1, .int (i32 (s)))] 0 = some (.ref 66)) rfl
  have gL636_1 : jGet L636 1 = some (.int (i32 (s))) := eL636 ▸ jg_ne (by decide) (rfl : jGet [(0, .ref 66), (1, .int (i32 (s)))] 1 = some (.int (i32 (s)))) rfl
  have gL636_2 : jGet L636 2 = some (.int (i32 (nd))) := eL636 ▸ jg_eq
  refine jx_ld (pc' := 17) (l' := L636) (st' := [.ref 66]) rfl (jl_aloadn gL636_0) ?_
  refine jr_get (pc' := 20) (i := 48) (v := .ref 97) rfl rfl (by decide) rfl rfl ?_
  refine jx_ld (pc' := 21) (l' := L636) (st' := [.ref 66, .ref 97]) rfl (jl_aloadn gL636_0) ?_
  refine jr_get (pc' := 24) (i := 26) (v := .ref 79) rfl rfl (by decide) rfl rfl ?_
  refine jx_ld (pc' := 25) (l' := L636) (st' := [.int (i32 (s)), .ref 79, .ref 97]) rfl (jl_iloadn gL636_1) ?_
  refine jr_ldv (pc' := 26) (i := 12) (m := 260) (z := s) (y := nu) rfl (by decide) rfl (by decide) (by omega) (by omega) rfl (show A622 12 (s).toNat = nu from (congrFun (hF626.2 12 rfl) _).trans (e_nu)) ?_
  refine jr_ldv (pc' := 27) (i := 30) (m := 25) (z := nu) (y := mp) rfl (by decide) rfl (by decide) (Int.le_trans (by decide : (0 : Int) ≤ 0) b_nu.1) (Int.lt_of_le_of_lt b_nu.2 (by decide : (24 : Int) < ((25 : Nat) : Int))) rfl (show A622 30 (nu).toNat = mp from (congrFun (hF626.2 30 rfl) _).trans (e_mp)) ?_
  refine jx_ld (pc' := 28) (l' := jSto1 L636 3 (.int (i32 (mp)))) (st' := []) rfl rfl ?_
  obtain ⟨L637, eL637⟩ : ∃ q, q = jSto1 L636 3 (.int (i32 (mp))) := ⟨_, rfl⟩
  rw [← eL637]
  have gL637_0 : jGet L637 0 = some (.ref 66) := eL637 ▸ jg_ne (by decide) gL636_0 rfl
  have gL637_1 : jGet L637 1 = some (.int (i32 (s))) := eL637 ▸ jg_ne (by decide) gL636_1 rfl
  have gL637_2 : jGet L637 2 = some (.int (i32 (nd))) := eL637 ▸ jg_ne (by decide) gL636_2 rfl
  have gL637_3 : jGet L637 3 = some (.int (i32 (mp))) := eL637 ▸ jg_eq
  refine jx_ld (pc' := 29) (l' := L637) (st' := [.ref 66]) rfl (jl_aloadn gL637_0) ?_
  refine jx_vr (pc' := 32) (as := []) (st := []) rfl rfl rfl rfl ⟨rfl, rfl, Nat.le_of_ble_eq_true rfl⟩ rfl rfl (c_open (dd := d) (hd := by omega) (hW := hW625)  (fk := fk) (e_fk := show G621 16 = fk from ((hF626.1 16 rfl).trans (e_fk))) (op0 := op0) (e_op0 := show G621 15 = op0 from ((hF626.1 15 rfl).trans (e_op0)))    (p_0 := by omega)) (fun o V' hq => ?_)
  obtain ⟨G638, A639, fk2_640, op2_641, rfl, rfl, hW642, hF643, e644, e645, p646, q647⟩ := hq
  have hF648 := Fr_tr hF634 hF643 (Fr_sub (by decide)) (Fr_sub (by decide))
  have hP649 := Pf_f hP635 hF643 (by decide)
  have sf650 : ND A639 (nd) (25) (nu) (0) (0) (0) (0) (0) := ND_ag (by omega) (Ag_fr hF643 (by decide)) p632
  have ec651 : ecn A639 (G638 31) = ec2_624 := (ecn_f (hF643.2 15 rfl) (hF643.1 31 rfl)).trans e629
  have bfk2_640 : (0 : Int) ≤ fk2_640 ∧ fk2_640 ≤ 6 := e644 ▸ hW642.1 16
  have bop2_641 : (-2147483648 : Int) ≤ op2_641 ∧ op2_641 ≤ 2147483647 := e645 ▸ hW642.1 15
  refine .inl ⟨rfl, ?_⟩
  rcases q647 with a652 | ⟨a653, a654, a655⟩
  · have _q : True := trivial
    refine jx_ld (pc' := 33) (l' := L637) (st' := [.ref 66]) rfl (jl_aloadn gL637_0) ?_
    refine jx_ar (pc' := 34) (st' := [.int (i32 (1)), .ref 66]) rfl rfl rfl rfl ?_
    refine jx_vr (pc' := 37) (as := [.int (i32 (1))]) (st := []) rfl rfl rfl rfl ⟨rfl, rfl, Nat.le_of_ble_eq_true rfl⟩ rfl rfl (c_need (dd := d) (hd := by omega) (hW := hW642) (g := 1) (ln := ln) (e_ln := show G638 9 = ln from ((hF643.1 9 rfl).trans ((hF626.1 9 rfl).trans (e_ln)))) (le := le) (e_le := show A639 4 (ln).toNat = le from (congrFun ((hF643.2 4 rfl).trans (hF626.2 4 rfl)) _).trans (e_le)) (at0 := at0) (e_at0 := show G638 10 = at0 from ((hF643.1 10 rfl).trans ((hF626.1 10 rfl).trans (e_at0)))) (fk := fk2_640) (e_fk := show G638 16 = fk2_640 from (e644)) (tk0 := tk0) (e_tk0 := show G638 11 = tk0 from ((hF643.1 11 rfl).trans ((hF626.1 11 rfl).trans (e_tk0))))  (h_g := ⟨(by decide), (by decide)⟩)  (p_0 := by omega)) (fun o V' hq => ?_)
    obtain ⟨G656, A657, at2_658, tk2_659, fk2_660, rfl, rfl, hW661, hF662, e663, e664, e665, p666, p667, q668⟩ := hq
    have hF669 := Fr_tr hF648 hF662 (Fr_sub (by decide)) (Fr_sub (by decide))
    have hP670 := Pf_f hP649 hF662 (by decide)
    have sf671 : ND A657 (nd) (25) (nu) (0) (0) (0) (0) (0) := ND_ag (by omega) (Ag_fr hF662 (by decide)) sf650
    have ec672 : ecn A657 (G656 31) = ec2_624 := (ecn_f (hF662.2 15 rfl) (hF662.1 31 rfl)).trans ec651
    have bat2_658 : (0 : Int) ≤ at2_658 ∧ at2_658 ≤ 3002 := e663 ▸ hW661.1 10
    have ztk2_659 := tz_b tk2_659
    have btk2_659 : (0 : Int) ≤ tk2_659 ∧ tk2_659 ≤ 5 := e664 ▸ hW661.1 11
    have bfk2_660 : (0 : Int) ≤ fk2_660 ∧ fk2_660 ≤ 6 := e665 ▸ hW661.1 16
    refine .inl ⟨rfl, ?_⟩
    rcases q668 with ⟨a673, a674, a675, a676⟩ | ⟨a677, a678, a679, a680⟩
    · have _q : True := trivial
      refine jx_ld (pc' := 38) (l' := L637) (st' := [.int (i32 (mp))]) rfl (jl_iloadn gL637_3) ?_
      refine jx_if_ne (pc' := 41) (tg := 57) rfl rfl rfl (Int.le_trans (by decide : (-2147483648 : Int) ≤ 0) b_mp.1) (Int.le_trans b_mp.2 (by decide : (6 : Int) ≤ 2147483647)) (fun h681 => ?_) (fun h681 => ?_)
      · have _q := h681
        refine jx_ld (pc' := 58) (l' := L637) (st' := [.ref 66]) rfl (jl_aloadn gL637_0) ?_
        refine jx_vr (pc' := 61) (as := []) (st := []) rfl rfl rfl rfl ⟨rfl, rfl, Nat.le_of_ble_eq_true rfl⟩ rfl rfl (c_bad (dd := d) (hd := by omega) (hW := hW661)  (fk := fk2_660) (e_fk := show G656 16 = fk2_660 from (e665))    ) (fun o V' hq => ?_)
        obtain ⟨r682, rfl, rfl, b683, q684⟩ := hq
        refine .inr ⟨_, rfl, ?_⟩
        rcases q684 with ⟨rfl, a685⟩ | ⟨rfl, a686⟩
        · have _q : True := trivial
          refine jx_if_ne (pc' := 64) (tg := 82) rfl rfl rfl (by decide) (by decide) (fun h687 => ?_) (fun h687 => ?_)
          · have _q := h687
            refine jx_ar (pc' := 83) (st' := [.int (i32 (0))]) rfl rfl rfl rfl ?_
            refine jx_ld (pc' := 85) (l' := jSto1 L637 4 (.int (i32 (0)))) (st' := []) rfl rfl ?_
            obtain ⟨L688, eL688⟩ : ∃ q, q = jSto1 L637 4 (.int (i32 (0))) := ⟨_, rfl⟩
            rw [← eL688]
            have gL688_0 : jGet L688 0 = some (.ref 66) := eL688 ▸ jg_ne (by decide) gL637_0 rfl
            have gL688_1 : jGet L688 1 = some (.int (i32 (s))) := eL688 ▸ jg_ne (by decide) gL637_1 rfl
            have gL688_2 : jGet L688 2 = some (.int (i32 (nd))) := eL688 ▸ jg_ne (by decide) gL637_2 rfl
            have gL688_3 : jGet L688 3 = some (.int (i32 (mp))) := eL688 ▸ jg_ne (by decide) gL637_3 rfl
            have gL688_4 : jGet L688 4 = some (.int (i32 (0))) := eL688 ▸ jg_eq
            refine jx_ar (pc' := 86) (st' := [.int (i32 (0))]) rfl rfl rfl rfl ?_
            refine jx_ld (pc' := 88) (l' := jSto1 L688 5 (.int (i32 (0)))) (st' := []) rfl rfl ?_
            obtain ⟨L689, eL689⟩ : ∃ q, q = jSto1 L688 5 (.int (i32 (0))) := ⟨_, rfl⟩
            rw [← eL689]
            have gL689_0 : jGet L689 0 = some (.ref 66) := eL689 ▸ jg_ne (by decide) gL688_0 rfl
            have gL689_1 : jGet L689 1 = some (.int (i32 (s))) := eL689 ▸ jg_ne (by decide) gL688_1 rfl
            have gL689_2 : jGet L689 2 = some (.int (i32 (nd))) := eL689 ▸ jg_ne (by decide) gL688_2 rfl
            have gL689_3 : jGet L689 3 = some (.int (i32 (mp))) := eL689 ▸ jg_ne (by decide) gL688_3 rfl
            have gL689_4 : jGet L689 4 = some (.int (i32 (0))) := eL689 ▸ jg_ne (by decide) gL688_4 rfl
            have gL689_5 : jGet L689 5 = some (.int (i32 (0))) := eL689 ▸ jg_eq
            have z690 := tz_f (tk2_659)
            exact c_readCall_w_at_88p (X := X) (d := d) (Vs := Vs) (sb := sb) (pb := pb) (c0 := c0) (c1 := c1) (G := G) (A := A) (T := T) (s := s) (ln := ln) (le := le) (at0 := at0) (fk := fk) (op0 := op0) (nd := nd) (tk0 := tk0) (li := li) (kd := kd) (nu := nu) (mp := mp) (pp := pp) (ec := ec) (hd := hd) (hW := hW) (e_ln := e_ln) (e_le := e_le) (e_at0 := e_at0) (e_fk := e_fk) (e_op0 := e_op0) (e_nd := e_nd) (e_tk0 := e_tk0) (e_li := e_li) (e_kd := e_kd) (e_nu := e_nu) (e_mp := e_mp) (e_pp := e_pp) (e_ec := e_ec) (i_SV := i_SV) (i_PQ := i_PQ) (h_s := h_s) (p_0 := p_0) (p_1 := p_1) (p_2 := p_2) (p_3 := p_3) (p_4 := p_4) (p_5 := p_5) (p_6 := p_6) (p_7 := p_7) (p_8 := p_8) L689 G656 A657 (nd) (mp) (0) (0) (at2_658) (tk2_659) (fk2_660) (nd2_623) (op2_641) (ec2_624) gL689_0 gL689_1 gL689_2 gL689_3 gL689_4 gL689_5 hW661 hF669 hP670 ((e663)) ((e664)) ((e665)) (((hF662.1 31 rfl).trans ((hF643.1 31 rfl).trans (e628)))) (((hF662.1 15 rfl).trans (e645))) (ec672) (((hF662.1 9 rfl).trans ((hF643.1 9 rfl).trans ((hF626.1 9 rfl).trans (e_ln))))) (by omega) (by omega) (by omega) (by omega) (by omega) (by omega) (by omega) (by omega) (by omega) (by omega) (by omega)
          · have _q := h687
            exact absurd h687 (by omega)
        · have _q : True := trivial
          exfalso
          omega
      · have _q := h681
        refine jx_ld (pc' := 42) (l' := L637) (st' := [.ref 66]) rfl (jl_aloadn gL637_0) ?_
        refine jx_ld (pc' := 43) (l' := L637) (st' := [.ref 66, .ref 66]) rfl (jl_aloadn gL637_0) ?_
        refine jx_ar (pc' := 45) (st' := [.int (i32 (41)), .ref 66, .ref 66]) rfl rfl rfl rfl ?_
        have b691 : (-2147483648 : Int) ≤ G656 13 ∧ G656 13 ≤ 2147483647 := hW661.1 13
        refine jx_vr (pc' := 48) (as := [.int (i32 (41))]) (st := [.ref 66]) rfl rfl rfl rfl ⟨rfl, rfl, Nat.le_of_ble_eq_true rfl⟩ rfl rfl (c_is (dd := d) (hd := by omega) (hW := hW661) (k := 41) (tk := tk2_659) (e_tk := show G656 11 = tk2_659 from (e664)) (tn := G656 13) (e_tn := show G656 13 = G656 13 from rfl)  (h_k := ⟨(by decide), (by decide)⟩)  ) (fun o V' hq => ?_)
        obtain ⟨r692, rfl, rfl, b693, q694⟩ := hq
        refine .inr ⟨_, rfl, ?_⟩
        rcases q694 with ⟨rfl, a695, a696, a697⟩ | rfl
        · have _q : True := trivial
          refine jx_vr (pc' := 51) (as := [.int (i32 (1))]) (st := []) rfl rfl rfl rfl ⟨rfl, rfl, Nat.le_of_ble_eq_true rfl⟩ rfl rfl (c_need (dd := d) (hd := by omega) (hW := hW661) (g := 1) (ln := ln) (e_ln := show G656 9 = ln from ((hF662.1 9 rfl).trans ((hF643.1 9 rfl).trans ((hF626.1 9 rfl).trans (e_ln))))) (le := le) (e_le := show A657 4 (ln).toNat = le from (congrFun ((hF662.2 4 rfl).trans ((hF643.2 4 rfl).trans (hF626.2 4 rfl))) _).trans (e_le)) (at0 := at2_658) (e_at0 := show G656 10 = at2_658 from (e663)) (fk := fk2_660) (e_fk := show G656 16 = fk2_660 from (e665)) (tk0 := tk2_659) (e_tk0 := show G656 11 = tk2_659 from (e664))  (h_g := ⟨(by decide), (by decide)⟩)  (p_0 := by omega)) (fun o V' hq => ?_)
          obtain ⟨G698, A699, at2_700, tk2_701, fk2_702, rfl, rfl, hW703, hF704, e705, e706, e707, p708, p709, q710⟩ := hq
          have hF711 := Fr_tr hF669 hF704 (Fr_sub (by decide)) (Fr_sub (by decide))
          have hP712 := Pf_f hP670 hF704 (by decide)
          have sf713 : ND A699 (nd) (25) (nu) (0) (0) (0) (0) (0) := ND_ag (by omega) (Ag_fr hF704 (by decide)) sf671
          have ec714 : ecn A699 (G698 31) = ec2_624 := (ecn_f (hF704.2 15 rfl) (hF704.1 31 rfl)).trans ec672
          have bat2_700 : (0 : Int) ≤ at2_700 ∧ at2_700 ≤ 3002 := e705 ▸ hW703.1 10
          have ztk2_701 := tz_b tk2_701
          have btk2_701 : (0 : Int) ≤ tk2_701 ∧ tk2_701 ≤ 5 := e706 ▸ hW703.1 11
          have bfk2_702 : (0 : Int) ≤ fk2_702 ∧ fk2_702 ≤ 6 := e707 ▸ hW703.1 16
          refine .inl ⟨rfl, ?_⟩
          rcases q710 with ⟨a715, a716, a717, a718⟩ | ⟨a719, a720, a721, a722⟩
          · have _q : True := trivial
            refine jx_ld (pc' := 52) (l' := L637) (st' := [.ref 66]) rfl (jl_aloadn gL637_0) ?_
            refine jx_vr (pc' := 55) (as := []) (st := []) rfl rfl rfl rfl ⟨rfl, rfl, Nat.le_of_ble_eq_true rfl⟩ rfl rfl (c_endLine (dd := d) (hd := by omega) (hW := hW703)  (ln := ln) (e_ln := show G698 9 = ln from ((hF704.1 9 rfl).trans ((hF662.1 9 rfl).trans ((hF643.1 9 rfl).trans ((hF626.1 9 rfl).trans (e_ln)))))) (li := li) (e_li := show G698 3 = li from ((hF704.1 3 rfl).trans ((hF662.1 3 rfl).trans ((hF643.1 3 rfl).trans ((hF626.1 3 rfl).trans (e_li)))))) (fk := fk2_702) (e_fk := show G698 16 = fk2_702 from (e707)) (tk0 := tk2_701) (e_tk0 := show G698 11 = tk2_701 from (e706))    (p_0 := by omega)) (fun o V' hq => ?_)
            obtain ⟨G723, A724, ln2_725, fk2_726, rfl, rfl, hW727, hF728, e729, e730, q731⟩ := hq
            have hF732 := Fr_tr hF711 hF728 (Fr_sub (by decide)) (Fr_sub (by decide))
            have hP733 := Pf_f hP712 hF728 (by decide)
            have sf734 : ND A724 (nd) (25) (nu) (0) (0) (0) (0) (0) := ND_ag (by omega) (Ag_fr hF728 (by decide)) sf713
            have ec735 : ecn A724 (G723 31) = ec2_624 := (ecn_f (hF728.2 15 rfl) (hF728.1 31 rfl)).trans ec714
            have bln2_725 : (0 : Int) ≤ ln2_725 ∧ ln2_725 ≤ 3000 := e729 ▸ hW727.1 9
            have bfk2_726 : (0 : Int) ≤ fk2_726 ∧ fk2_726 ≤ 6 := e730 ▸ hW727.1 16
            refine .inl ⟨rfl, ?_⟩
            rcases q731 with ⟨a736, a737, a738, a739, a740⟩ | ⟨a741, a742⟩
            · have _q : True := trivial
              exfalso
              omega
            · have _q : True := trivial
              refine jx_ld (pc' := 56) (l' := L637) (st' := [.int (i32 (nd))]) rfl (jl_iloadn gL637_2) ?_
              refine jx_rt (v := some (.int (i32 (nd)))) rfl rfl rfl rfl rfl rfl ?_
              exact ⟨_, _, _, at2_700, fk2_726, nd2_623, ln2_725, ec2_624, rfl, rfl, hW727, hF732, hP733, by omega, ((hF728.1 10 rfl).trans (e705)), (e730), ((hF728.1 31 rfl).trans ((hF704.1 31 rfl).trans ((hF662.1 31 rfl).trans ((hF643.1 31 rfl).trans (e628))))), (e729), ec735, by omega, by omega, by omega, by omega, by omega, by first | exact Or.inl (⟨by omega, by omega, by omega⟩)⟩
          · have _q : True := trivial
            exfalso
            omega
        · have _q : True := trivial
          refine jx_vr (pc' := 51) (as := [.int (i32 (0))]) (st := []) rfl rfl rfl rfl ⟨rfl, rfl, Nat.le_of_ble_eq_true rfl⟩ rfl rfl (c_need (dd := d) (hd := by omega) (hW := hW661) (g := 0) (ln := ln) (e_ln := show G656 9 = ln from ((hF662.1 9 rfl).trans ((hF643.1 9 rfl).trans ((hF626.1 9 rfl).trans (e_ln))))) (le := le) (e_le := show A657 4 (ln).toNat = le from (congrFun ((hF662.2 4 rfl).trans ((hF643.2 4 rfl).trans (hF626.2 4 rfl))) _).trans (e_le)) (at0 := at2_658) (e_at0 := show G656 10 = at2_658 from (e663)) (fk := fk2_660) (e_fk := show G656 16 = fk2_660 from (e665)) (tk0 := tk2_659) (e_tk0 := show G656 11 = tk2_659 from (e664))  (h_g := ⟨(by decide), (by decide)⟩)  (p_0 := by omega)) (fun o V' hq => ?_)
          obtain ⟨G743, A744, at2_745, tk2_746, fk2_747, rfl, rfl, hW748, hF749, e750, e751, e752, p753, p754, q755⟩ := hq
          have hF756 := Fr_tr hF669 hF749 (Fr_sub (by decide)) (Fr_sub (by decide))
          have hP757 := Pf_f hP670 hF749 (by decide)
          have sf758 : ND A744 (nd) (25) (nu) (0) (0) (0) (0) (0) := ND_ag (by omega) (Ag_fr hF749 (by decide)) sf671
          have ec759 : ecn A744 (G743 31) = ec2_624 := (ecn_f (hF749.2 15 rfl) (hF749.1 31 rfl)).trans ec672
          have bat2_745 : (0 : Int) ≤ at2_745 ∧ at2_745 ≤ 3002 := e750 ▸ hW748.1 10
          have ztk2_746 := tz_b tk2_746
          have btk2_746 : (0 : Int) ≤ tk2_746 ∧ tk2_746 ≤ 5 := e751 ▸ hW748.1 11
          have bfk2_747 : (0 : Int) ≤ fk2_747 ∧ fk2_747 ≤ 6 := e752 ▸ hW748.1 16
          refine .inl ⟨rfl, ?_⟩
          rcases q755 with ⟨a760, a761, a762, a763⟩ | ⟨a764, a765, a766, a767⟩
          · have _q : True := trivial
            refine jx_ld (pc' := 52) (l' := L637) (st' := [.ref 66]) rfl (jl_aloadn gL637_0) ?_
            refine jx_vr (pc' := 55) (as := []) (st := []) rfl rfl rfl rfl ⟨rfl, rfl, Nat.le_of_ble_eq_true rfl⟩ rfl rfl (c_endLine (dd := d) (hd := by omega) (hW := hW748)  (ln := ln) (e_ln := show G743 9 = ln from ((hF749.1 9 rfl).trans ((hF662.1 9 rfl).trans ((hF643.1 9 rfl).trans ((hF626.1 9 rfl).trans (e_ln)))))) (li := li) (e_li := show G743 3 = li from ((hF749.1 3 rfl).trans ((hF662.1 3 rfl).trans ((hF643.1 3 rfl).trans ((hF626.1 3 rfl).trans (e_li)))))) (fk := fk2_747) (e_fk := show G743 16 = fk2_747 from (e752)) (tk0 := tk2_746) (e_tk0 := show G743 11 = tk2_746 from (e751))    (p_0 := by omega)) (fun o V' hq => ?_)
            obtain ⟨G768, A769, ln2_770, fk2_771, rfl, rfl, hW772, hF773, e774, e775, q776⟩ := hq
            have hF777 := Fr_tr hF756 hF773 (Fr_sub (by decide)) (Fr_sub (by decide))
            have hP778 := Pf_f hP757 hF773 (by decide)
            have sf779 : ND A769 (nd) (25) (nu) (0) (0) (0) (0) (0) := ND_ag (by omega) (Ag_fr hF773 (by decide)) sf758
            have ec780 : ecn A769 (G768 31) = ec2_624 := (ecn_f (hF773.2 15 rfl) (hF773.1 31 rfl)).trans ec759
            have bln2_770 : (0 : Int) ≤ ln2_770 ∧ ln2_770 ≤ 3000 := e774 ▸ hW772.1 9
            have bfk2_771 : (0 : Int) ≤ fk2_771 ∧ fk2_771 ≤ 6 := e775 ▸ hW772.1 16
            refine .inl ⟨rfl, ?_⟩
            rcases q776 with ⟨a781, a782, a783, a784, a785⟩ | ⟨a786, a787⟩
            · have _q : True := trivial
              exfalso
              omega
            · have _q : True := trivial
              refine jx_ld (pc' := 56) (l' := L637) (st' := [.int (i32 (nd))]) rfl (jl_iloadn gL637_2) ?_
              refine jx_rt (v := some (.int (i32 (nd)))) rfl rfl rfl rfl rfl rfl ?_
              exact ⟨_, _, _, at2_745, fk2_771, nd2_623, ln2_770, ec2_624, rfl, rfl, hW772, hF777, hP778, by omega, ((hF773.1 10 rfl).trans (e750)), (e775), ((hF773.1 31 rfl).trans ((hF749.1 31 rfl).trans ((hF662.1 31 rfl).trans ((hF643.1 31 rfl).trans (e628))))), (e774), ec780, by omega, by omega, by omega, by omega, by omega, by first | exact Or.inl (⟨by omega, by omega, by omega⟩)⟩
          · have _q : True := trivial
            exfalso
            omega
    · have _q : True := trivial
      exfalso
      omega
  · have _q : True := trivial
    refine jx_ld (pc' := 33) (l' := L637) (st' := [.ref 66]) rfl (jl_aloadn gL637_0) ?_
    refine jx_ar (pc' := 34) (st' := [.int (i32 (1)), .ref 66]) rfl rfl rfl rfl ?_
    refine jx_vr (pc' := 37) (as := [.int (i32 (1))]) (st := []) rfl rfl rfl rfl ⟨rfl, rfl, Nat.le_of_ble_eq_true rfl⟩ rfl rfl (c_need (dd := d) (hd := by omega) (hW := hW642) (g := 1) (ln := ln) (e_ln := show G638 9 = ln from ((hF643.1 9 rfl).trans ((hF626.1 9 rfl).trans (e_ln)))) (le := le) (e_le := show A639 4 (ln).toNat = le from (congrFun ((hF643.2 4 rfl).trans (hF626.2 4 rfl)) _).trans (e_le)) (at0 := at0) (e_at0 := show G638 10 = at0 from ((hF643.1 10 rfl).trans ((hF626.1 10 rfl).trans (e_at0)))) (fk := fk2_640) (e_fk := show G638 16 = fk2_640 from (e644)) (tk0 := tk0) (e_tk0 := show G638 11 = tk0 from ((hF643.1 11 rfl).trans ((hF626.1 11 rfl).trans (e_tk0))))  (h_g := ⟨(by decide), (by decide)⟩)  (p_0 := by omega)) (fun o V' hq => ?_)
    obtain ⟨G788, A789, at2_790, tk2_791, fk2_792, rfl, rfl, hW793, hF794, e795, e796, e797, p798, p799, q800⟩ := hq
    have hF801 := Fr_tr hF648 hF794 (Fr_sub (by decide)) (Fr_sub (by decide))
    have hP802 := Pf_f hP649 hF794 (by decide)
    have sf803 : ND A789 (nd) (25) (nu) (0) (0) (0) (0) (0) := ND_ag (by omega) (Ag_fr hF794 (by decide)) sf650
    have ec804 : ecn A789 (G788 31) = ec2_624 := (ecn_f (hF794.2 15 rfl) (hF794.1 31 rfl)).trans ec651
    have bat2_790 : (0 : Int) ≤ at2_790 ∧ at2_790 ≤ 3002 := e795 ▸ hW793.1 10
    have ztk2_791 := tz_b tk2_791
    have btk2_791 : (0 : Int) ≤ tk2_791 ∧ tk2_791 ≤ 5 := e796 ▸ hW793.1 11
    have bfk2_792 : (0 : Int) ≤ fk2_792 ∧ fk2_792 ≤ 6 := e797 ▸ hW793.1 16
    refine .inl ⟨rfl, ?_⟩
    rcases q800 with ⟨a805, a806, a807, a808⟩ | ⟨a809, a810, a811, a812⟩
    · have _q : True := trivial
      refine jx_ld (pc' := 38) (l' := L637) (st' := [.int (i32 (mp))]) rfl (jl_iloadn gL637_3) ?_
      refine jx_if_ne (pc' := 41) (tg := 57) rfl rfl rfl (Int.le_trans (by decide : (-2147483648 : Int) ≤ 0) b_mp.1) (Int.le_trans b_mp.2 (by decide : (6 : Int) ≤ 2147483647)) (fun h813 => ?_) (fun h813 => ?_)
      · have _q := h813
        refine jx_ld (pc' := 58) (l' := L637) (st' := [.ref 66]) rfl (jl_aloadn gL637_0) ?_
        refine jx_vr (pc' := 61) (as := []) (st := []) rfl rfl rfl rfl ⟨rfl, rfl, Nat.le_of_ble_eq_true rfl⟩ rfl rfl (c_bad (dd := d) (hd := by omega) (hW := hW793)  (fk := fk2_792) (e_fk := show G788 16 = fk2_792 from (e797))    ) (fun o V' hq => ?_)
        obtain ⟨r814, rfl, rfl, b815, q816⟩ := hq
        refine .inr ⟨_, rfl, ?_⟩
        rcases q816 with ⟨rfl, a817⟩ | ⟨rfl, a818⟩
        · have _q : True := trivial
          refine jx_if_ne (pc' := 64) (tg := 82) rfl rfl rfl (by decide) (by decide) (fun h819 => ?_) (fun h819 => ?_)
          · have _q := h819
            refine jx_ar (pc' := 83) (st' := [.int (i32 (0))]) rfl rfl rfl rfl ?_
            refine jx_ld (pc' := 85) (l' := jSto1 L637 4 (.int (i32 (0)))) (st' := []) rfl rfl ?_
            obtain ⟨L820, eL820⟩ : ∃ q, q = jSto1 L637 4 (.int (i32 (0))) := ⟨_, rfl⟩
            rw [← eL820]
            have gL820_0 : jGet L820 0 = some (.ref 66) := eL820 ▸ jg_ne (by decide) gL637_0 rfl
            have gL820_1 : jGet L820 1 = some (.int (i32 (s))) := eL820 ▸ jg_ne (by decide) gL637_1 rfl
            have gL820_2 : jGet L820 2 = some (.int (i32 (nd))) := eL820 ▸ jg_ne (by decide) gL637_2 rfl
            have gL820_3 : jGet L820 3 = some (.int (i32 (mp))) := eL820 ▸ jg_ne (by decide) gL637_3 rfl
            have gL820_4 : jGet L820 4 = some (.int (i32 (0))) := eL820 ▸ jg_eq
            refine jx_ar (pc' := 86) (st' := [.int (i32 (0))]) rfl rfl rfl rfl ?_
            refine jx_ld (pc' := 88) (l' := jSto1 L820 5 (.int (i32 (0)))) (st' := []) rfl rfl ?_
            obtain ⟨L821, eL821⟩ : ∃ q, q = jSto1 L820 5 (.int (i32 (0))) := ⟨_, rfl⟩
            rw [← eL821]
            have gL821_0 : jGet L821 0 = some (.ref 66) := eL821 ▸ jg_ne (by decide) gL820_0 rfl
            have gL821_1 : jGet L821 1 = some (.int (i32 (s))) := eL821 ▸ jg_ne (by decide) gL820_1 rfl
            have gL821_2 : jGet L821 2 = some (.int (i32 (nd))) := eL821 ▸ jg_ne (by decide) gL820_2 rfl
            have gL821_3 : jGet L821 3 = some (.int (i32 (mp))) := eL821 ▸ jg_ne (by decide) gL820_3 rfl
            have gL821_4 : jGet L821 4 = some (.int (i32 (0))) := eL821 ▸ jg_ne (by decide) gL820_4 rfl
            have gL821_5 : jGet L821 5 = some (.int (i32 (0))) := eL821 ▸ jg_eq
            have z822 := tz_f (tk2_791)
            exact c_readCall_w_at_88p (X := X) (d := d) (Vs := Vs) (sb := sb) (pb := pb) (c0 := c0) (c1 := c1) (G := G) (A := A) (T := T) (s := s) (ln := ln) (le := le) (at0 := at0) (fk := fk) (op0 := op0) (nd := nd) (tk0 := tk0) (li := li) (kd := kd) (nu := nu) (mp := mp) (pp := pp) (ec := ec) (hd := hd) (hW := hW) (e_ln := e_ln) (e_le := e_le) (e_at0 := e_at0) (e_fk := e_fk) (e_op0 := e_op0) (e_nd := e_nd) (e_tk0 := e_tk0) (e_li := e_li) (e_kd := e_kd) (e_nu := e_nu) (e_mp := e_mp) (e_pp := e_pp) (e_ec := e_ec) (i_SV := i_SV) (i_PQ := i_PQ) (h_s := h_s) (p_0 := p_0) (p_1 := p_1) (p_2 := p_2) (p_3 := p_3) (p_4 := p_4) (p_5 := p_5) (p_6 := p_6) (p_7 := p_7) (p_8 := p_8) L821 G788 A789 (nd) (mp) (0) (0) (at2_790) (tk2_791) (fk2_792) (nd2_623) (op2_641) (ec2_624) gL821_0 gL821_1 gL821_2 gL821_3 gL821_4 gL821_5 hW793 hF801 hP802 ((e795)) ((e796)) ((e797)) (((hF794.1 31 rfl).trans ((hF643.1 31 rfl).trans (e628)))) (((hF794.1 15 rfl).trans (e645))) (ec804) (((hF794.1 9 rfl).trans ((hF643.1 9 rfl).trans ((hF626.1 9 rfl).trans (e_ln))))) (by omega) (by omega) (by omega) (by omega) (by omega) (by omega) (by omega) (by omega) (by omega) (by omega) (by omega)
          · have _q := h819
            exact absurd h819 (by omega)
        · have _q : True := trivial
          exfalso
          omega
      · have _q := h813
        refine jx_ld (pc' := 42) (l' := L637) (st' := [.ref 66]) rfl (jl_aloadn gL637_0) ?_
        refine jx_ld (pc' := 43) (l' := L637) (st' := [.ref 66, .ref 66]) rfl (jl_aloadn gL637_0) ?_
        refine jx_ar (pc' := 45) (st' := [.int (i32 (41)), .ref 66, .ref 66]) rfl rfl rfl rfl ?_
        have b823 : (-2147483648 : Int) ≤ G788 13 ∧ G788 13 ≤ 2147483647 := hW793.1 13
        refine jx_vr (pc' := 48) (as := [.int (i32 (41))]) (st := [.ref 66]) rfl rfl rfl rfl ⟨rfl, rfl, Nat.le_of_ble_eq_true rfl⟩ rfl rfl (c_is (dd := d) (hd := by omega) (hW := hW793) (k := 41) (tk := tk2_791) (e_tk := show G788 11 = tk2_791 from (e796)) (tn := G788 13) (e_tn := show G788 13 = G788 13 from rfl)  (h_k := ⟨(by decide), (by decide)⟩)  ) (fun o V' hq => ?_)
        obtain ⟨r824, rfl, rfl, b825, q826⟩ := hq
        refine .inr ⟨_, rfl, ?_⟩
        rcases q826 with ⟨rfl, a827, a828, a829⟩ | rfl
        · have _q : True := trivial
          refine jx_vr (pc' := 51) (as := [.int (i32 (1))]) (st := []) rfl rfl rfl rfl ⟨rfl, rfl, Nat.le_of_ble_eq_true rfl⟩ rfl rfl (c_need (dd := d) (hd := by omega) (hW := hW793) (g := 1) (ln := ln) (e_ln := show G788 9 = ln from ((hF794.1 9 rfl).trans ((hF643.1 9 rfl).trans ((hF626.1 9 rfl).trans (e_ln))))) (le := le) (e_le := show A789 4 (ln).toNat = le from (congrFun ((hF794.2 4 rfl).trans ((hF643.2 4 rfl).trans (hF626.2 4 rfl))) _).trans (e_le)) (at0 := at2_790) (e_at0 := show G788 10 = at2_790 from (e795)) (fk := fk2_792) (e_fk := show G788 16 = fk2_792 from (e797)) (tk0 := tk2_791) (e_tk0 := show G788 11 = tk2_791 from (e796))  (h_g := ⟨(by decide), (by decide)⟩)  (p_0 := by omega)) (fun o V' hq => ?_)
          obtain ⟨G830, A831, at2_832, tk2_833, fk2_834, rfl, rfl, hW835, hF836, e837, e838, e839, p840, p841, q842⟩ := hq
          have hF843 := Fr_tr hF801 hF836 (Fr_sub (by decide)) (Fr_sub (by decide))
          have hP844 := Pf_f hP802 hF836 (by decide)
          have sf845 : ND A831 (nd) (25) (nu) (0) (0) (0) (0) (0) := ND_ag (by omega) (Ag_fr hF836 (by decide)) sf803
          have ec846 : ecn A831 (G830 31) = ec2_624 := (ecn_f (hF836.2 15 rfl) (hF836.1 31 rfl)).trans ec804
          have bat2_832 : (0 : Int) ≤ at2_832 ∧ at2_832 ≤ 3002 := e837 ▸ hW835.1 10
          have ztk2_833 := tz_b tk2_833
          have btk2_833 : (0 : Int) ≤ tk2_833 ∧ tk2_833 ≤ 5 := e838 ▸ hW835.1 11
          have bfk2_834 : (0 : Int) ≤ fk2_834 ∧ fk2_834 ≤ 6 := e839 ▸ hW835.1 16
          refine .inl ⟨rfl, ?_⟩
          rcases q842 with ⟨a847, a848, a849, a850⟩ | ⟨a851, a852, a853, a854⟩
          · have _q : True := trivial
            refine jx_ld (pc' := 52) (l' := L637) (st' := [.ref 66]) rfl (jl_aloadn gL637_0) ?_
            refine jx_vr (pc' := 55) (as := []) (st := []) rfl rfl rfl rfl ⟨rfl, rfl, Nat.le_of_ble_eq_true rfl⟩ rfl rfl (c_endLine (dd := d) (hd := by omega) (hW := hW835)  (ln := ln) (e_ln := show G830 9 = ln from ((hF836.1 9 rfl).trans ((hF794.1 9 rfl).trans ((hF643.1 9 rfl).trans ((hF626.1 9 rfl).trans (e_ln)))))) (li := li) (e_li := show G830 3 = li from ((hF836.1 3 rfl).trans ((hF794.1 3 rfl).trans ((hF643.1 3 rfl).trans ((hF626.1 3 rfl).trans (e_li)))))) (fk := fk2_834) (e_fk := show G830 16 = fk2_834 from (e839)) (tk0 := tk2_833) (e_tk0 := show G830 11 = tk2_833 from (e838))    (p_0 := by omega)) (fun o V' hq => ?_)
            obtain ⟨G855, A856, ln2_857, fk2_858, rfl, rfl, hW859, hF860, e861, e862, q863⟩ := hq
            have hF864 := Fr_tr hF843 hF860 (Fr_sub (by decide)) (Fr_sub (by decide))
            have hP865 := Pf_f hP844 hF860 (by decide)
            have sf866 : ND A856 (nd) (25) (nu) (0) (0) (0) (0) (0) := ND_ag (by omega) (Ag_fr hF860 (by decide)) sf845
            have ec867 : ecn A856 (G855 31) = ec2_624 := (ecn_f (hF860.2 15 rfl) (hF860.1 31 rfl)).trans ec846
            have bln2_857 : (0 : Int) ≤ ln2_857 ∧ ln2_857 ≤ 3000 := e861 ▸ hW859.1 9
            have bfk2_858 : (0 : Int) ≤ fk2_858 ∧ fk2_858 ≤ 6 := e862 ▸ hW859.1 16
            refine .inl ⟨rfl, ?_⟩
            rcases q863 with ⟨a868, a869, a870, a871, a872⟩ | ⟨a873, a874⟩
            · have _q : True := trivial
              exfalso
              omega
            · have _q : True := trivial
              refine jx_ld (pc' := 56) (l' := L637) (st' := [.int (i32 (nd))]) rfl (jl_iloadn gL637_2) ?_
              refine jx_rt (v := some (.int (i32 (nd)))) rfl rfl rfl rfl rfl rfl ?_
              exact ⟨_, _, _, at2_832, fk2_858, nd2_623, ln2_857, ec2_624, rfl, rfl, hW859, hF864, hP865, by omega, ((hF860.1 10 rfl).trans (e837)), (e862), ((hF860.1 31 rfl).trans ((hF836.1 31 rfl).trans ((hF794.1 31 rfl).trans ((hF643.1 31 rfl).trans (e628))))), (e861), ec867, by omega, by omega, by omega, by omega, by omega, by first | exact Or.inl (⟨by omega, by omega, by omega⟩)⟩
          · have _q : True := trivial
            exfalso
            omega
        · have _q : True := trivial
          refine jx_vr (pc' := 51) (as := [.int (i32 (0))]) (st := []) rfl rfl rfl rfl ⟨rfl, rfl, Nat.le_of_ble_eq_true rfl⟩ rfl rfl (c_need (dd := d) (hd := by omega) (hW := hW793) (g := 0) (ln := ln) (e_ln := show G788 9 = ln from ((hF794.1 9 rfl).trans ((hF643.1 9 rfl).trans ((hF626.1 9 rfl).trans (e_ln))))) (le := le) (e_le := show A789 4 (ln).toNat = le from (congrFun ((hF794.2 4 rfl).trans ((hF643.2 4 rfl).trans (hF626.2 4 rfl))) _).trans (e_le)) (at0 := at2_790) (e_at0 := show G788 10 = at2_790 from (e795)) (fk := fk2_792) (e_fk := show G788 16 = fk2_792 from (e797)) (tk0 := tk2_791) (e_tk0 := show G788 11 = tk2_791 from (e796))  (h_g := ⟨(by decide), (by decide)⟩)  (p_0 := by omega)) (fun o V' hq => ?_)
          obtain ⟨G875, A876, at2_877, tk2_878, fk2_879, rfl, rfl, hW880, hF881, e882, e883, e884, p885, p886, q887⟩ := hq
          have hF888 := Fr_tr hF801 hF881 (Fr_sub (by decide)) (Fr_sub (by decide))
          have hP889 := Pf_f hP802 hF881 (by decide)
          have sf890 : ND A876 (nd) (25) (nu) (0) (0) (0) (0) (0) := ND_ag (by omega) (Ag_fr hF881 (by decide)) sf803
          have ec891 : ecn A876 (G875 31) = ec2_624 := (ecn_f (hF881.2 15 rfl) (hF881.1 31 rfl)).trans ec804
          have bat2_877 : (0 : Int) ≤ at2_877 ∧ at2_877 ≤ 3002 := e882 ▸ hW880.1 10
          have ztk2_878 := tz_b tk2_878
          have btk2_878 : (0 : Int) ≤ tk2_878 ∧ tk2_878 ≤ 5 := e883 ▸ hW880.1 11
          have bfk2_879 : (0 : Int) ≤ fk2_879 ∧ fk2_879 ≤ 6 := e884 ▸ hW880.1 16
          refine .inl ⟨rfl, ?_⟩
          rcases q887 with ⟨a892, a893, a894, a895⟩ | ⟨a896, a897, a898, a899⟩
          · have _q : True := trivial
            refine jx_ld (pc' := 52) (l' := L637) (st' := [.ref 66]) rfl (jl_aloadn gL637_0) ?_
            refine jx_vr (pc' := 55) (as := []) (st := []) rfl rfl rfl rfl ⟨rfl, rfl, Nat.le_of_ble_eq_true rfl⟩ rfl rfl (c_endLine (dd := d) (hd := by omega) (hW := hW880)  (ln := ln) (e_ln := show G875 9 = ln from ((hF881.1 9 rfl).trans ((hF794.1 9 rfl).trans ((hF643.1 9 rfl).trans ((hF626.1 9 rfl).trans (e_ln)))))) (li := li) (e_li := show G875 3 = li from ((hF881.1 3 rfl).trans ((hF794.1 3 rfl).trans ((hF643.1 3 rfl).trans ((hF626.1 3 rfl).trans (e_li)))))) (fk := fk2_879) (e_fk := show G875 16 = fk2_879 from (e884)) (tk0 := tk2_878) (e_tk0 := show G875 11 = tk2_878 from (e883))    (p_0 := by omega)) (fun o V' hq => ?_)
            obtain ⟨G900, A901, ln2_902, fk2_903, rfl, rfl, hW904, hF905, e906, e907, q908⟩ := hq
            have hF909 := Fr_tr hF888 hF905 (Fr_sub (by decide)) (Fr_sub (by decide))
            have hP910 := Pf_f hP889 hF905 (by decide)
            have sf911 : ND A901 (nd) (25) (nu) (0) (0) (0) (0) (0) := ND_ag (by omega) (Ag_fr hF905 (by decide)) sf890
            have ec912 : ecn A901 (G900 31) = ec2_624 := (ecn_f (hF905.2 15 rfl) (hF905.1 31 rfl)).trans ec891
            have bln2_902 : (0 : Int) ≤ ln2_902 ∧ ln2_902 ≤ 3000 := e906 ▸ hW904.1 9
            have bfk2_903 : (0 : Int) ≤ fk2_903 ∧ fk2_903 ≤ 6 := e907 ▸ hW904.1 16
            refine .inl ⟨rfl, ?_⟩
            rcases q908 with ⟨a913, a914, a915, a916, a917⟩ | ⟨a918, a919⟩
            · have _q : True := trivial
              exfalso
              omega
            · have _q : True := trivial
              refine jx_ld (pc' := 56) (l' := L637) (st' := [.int (i32 (nd))]) rfl (jl_iloadn gL637_2) ?_
              refine jx_rt (v := some (.int (i32 (nd)))) rfl rfl rfl rfl rfl rfl ?_
              exact ⟨_, _, _, at2_877, fk2_903, nd2_623, ln2_902, ec2_624, rfl, rfl, hW904, hF909, hP910, by omega, ((hF905.1 10 rfl).trans (e882)), (e907), ((hF905.1 31 rfl).trans ((hF881.1 31 rfl).trans ((hF794.1 31 rfl).trans ((hF643.1 31 rfl).trans (e628))))), (e906), ec912, by omega, by omega, by omega, by omega, by omega, by first | exact Or.inl (⟨by omega, by omega, by omega⟩)⟩
          · have _q : True := trivial
            exfalso
            omega
    · have _q : True := trivial
      have pz920 : at0 + tz tk2_791 ≤ at2_790 := by omega
      refine jx_ld (pc' := 38) (l' := L637) (st' := [.int (i32 (mp))]) rfl (jl_iloadn gL637_3) ?_
      refine jx_if_ne (pc' := 41) (tg := 57) rfl rfl rfl (Int.le_trans (by decide : (-2147483648 : Int) ≤ 0) b_mp.1) (Int.le_trans b_mp.2 (by decide : (6 : Int) ≤ 2147483647)) (fun h921 => ?_) (fun h921 => ?_)
      · have _q := h921
        have z922 := tz_f (tk2_791)
        exact c_readCall_w_at_57 (X := X) (d := d) (Vs := Vs) (sb := sb) (pb := pb) (c0 := c0) (c1 := c1) (G := G) (A := A) (T := T) (s := s) (ln := ln) (le := le) (at0 := at0) (fk := fk) (op0 := op0) (nd := nd) (tk0 := tk0) (li := li) (kd := kd) (nu := nu) (mp := mp) (pp := pp) (ec := ec) (hd := hd) (hW := hW) (e_ln := e_ln) (e_le := e_le) (e_at0 := e_at0) (e_fk := e_fk) (e_op0 := e_op0) (e_nd := e_nd) (e_tk0 := e_tk0) (e_li := e_li) (e_kd := e_kd) (e_nu := e_nu) (e_mp := e_mp) (e_pp := e_pp) (e_ec := e_ec) (i_SV := i_SV) (i_PQ := i_PQ) (h_s := h_s) (p_0 := p_0) (p_1 := p_1) (p_2 := p_2) (p_3 := p_3) (p_4 := p_4) (p_5 := p_5) (p_6 := p_6) (p_7 := p_7) (p_8 := p_8) L637 G788 A789 (nd) (mp) (at2_790) (tk2_791) (fk2_792) (nd2_623) (op2_641) (ec2_624) gL637_0 gL637_1 gL637_2 gL637_3 hW793 hF801 hP802 ((e795)) ((e796)) ((e797)) (((hF794.1 31 rfl).trans ((hF643.1 31 rfl).trans (e628)))) (((hF794.1 15 rfl).trans (e645))) (ec804) (((hF794.1 9 rfl).trans ((hF643.1 9 rfl).trans ((hF626.1 9 rfl).trans (e_ln))))) (by omega) (by omega) (by omega) (by omega) (by omega) (by omega) (by omega) (by omega) (by omega) (by omega) (by omega) (by omega) (by omega) (by omega) (sf803) (by omega)
      · have _q := h921
        refine jx_ld (pc' := 42) (l' := L637) (st' := [.ref 66]) rfl (jl_aloadn gL637_0) ?_
        refine jx_ld (pc' := 43) (l' := L637) (st' := [.ref 66, .ref 66]) rfl (jl_aloadn gL637_0) ?_
        refine jx_ar (pc' := 45) (st' := [.int (i32 (41)), .ref 66, .ref 66]) rfl rfl rfl rfl ?_
        have b923 : (-2147483648 : Int) ≤ G788 13 ∧ G788 13 ≤ 2147483647 := hW793.1 13
        refine jx_vr (pc' := 48) (as := [.int (i32 (41))]) (st := [.ref 66]) rfl rfl rfl rfl ⟨rfl, rfl, Nat.le_of_ble_eq_true rfl⟩ rfl rfl (c_is (dd := d) (hd := by omega) (hW := hW793) (k := 41) (tk := tk2_791) (e_tk := show G788 11 = tk2_791 from (e796)) (tn := G788 13) (e_tn := show G788 13 = G788 13 from rfl)  (h_k := ⟨(by decide), (by decide)⟩)  ) (fun o V' hq => ?_)
        obtain ⟨r924, rfl, rfl, b925, q926⟩ := hq
        refine .inr ⟨_, rfl, ?_⟩
        rcases q926 with ⟨rfl, a927, a928, a929⟩ | rfl
        · have _q : True := trivial
          refine jx_vr (pc' := 51) (as := [.int (i32 (1))]) (st := []) rfl rfl rfl rfl ⟨rfl, rfl, Nat.le_of_ble_eq_true rfl⟩ rfl rfl (c_need (dd := d) (hd := by omega) (hW := hW793) (g := 1) (ln := ln) (e_ln := show G788 9 = ln from ((hF794.1 9 rfl).trans ((hF643.1 9 rfl).trans ((hF626.1 9 rfl).trans (e_ln))))) (le := le) (e_le := show A789 4 (ln).toNat = le from (congrFun ((hF794.2 4 rfl).trans ((hF643.2 4 rfl).trans (hF626.2 4 rfl))) _).trans (e_le)) (at0 := at2_790) (e_at0 := show G788 10 = at2_790 from (e795)) (fk := fk2_792) (e_fk := show G788 16 = fk2_792 from (e797)) (tk0 := tk2_791) (e_tk0 := show G788 11 = tk2_791 from (e796))  (h_g := ⟨(by decide), (by decide)⟩)  (p_0 := by omega)) (fun o V' hq => ?_)
          obtain ⟨G930, A931, at2_932, tk2_933, fk2_934, rfl, rfl, hW935, hF936, e937, e938, e939, p940, p941, q942⟩ := hq
          have hF943 := Fr_tr hF801 hF936 (Fr_sub (by decide)) (Fr_sub (by decide))
          have hP944 := Pf_f hP802 hF936 (by decide)
          have sf945 : ND A931 (nd) (25) (nu) (0) (0) (0) (0) (0) := ND_ag (by omega) (Ag_fr hF936 (by decide)) sf803
          have ec946 : ecn A931 (G930 31) = ec2_624 := (ecn_f (hF936.2 15 rfl) (hF936.1 31 rfl)).trans ec804
          have bat2_932 : (0 : Int) ≤ at2_932 ∧ at2_932 ≤ 3002 := e937 ▸ hW935.1 10
          have ztk2_933 := tz_b tk2_933
          have btk2_933 : (0 : Int) ≤ tk2_933 ∧ tk2_933 ≤ 5 := e938 ▸ hW935.1 11
          have bfk2_934 : (0 : Int) ≤ fk2_934 ∧ fk2_934 ≤ 6 := e939 ▸ hW935.1 16
          refine .inl ⟨rfl, ?_⟩
          rcases q942 with ⟨a947, a948, a949, a950⟩ | ⟨a951, a952, a953, a954⟩
          · have _q : True := trivial
            refine jx_ld (pc' := 52) (l' := L637) (st' := [.ref 66]) rfl (jl_aloadn gL637_0) ?_
            refine jx_vr (pc' := 55) (as := []) (st := []) rfl rfl rfl rfl ⟨rfl, rfl, Nat.le_of_ble_eq_true rfl⟩ rfl rfl (c_endLine (dd := d) (hd := by omega) (hW := hW935)  (ln := ln) (e_ln := show G930 9 = ln from ((hF936.1 9 rfl).trans ((hF794.1 9 rfl).trans ((hF643.1 9 rfl).trans ((hF626.1 9 rfl).trans (e_ln)))))) (li := li) (e_li := show G930 3 = li from ((hF936.1 3 rfl).trans ((hF794.1 3 rfl).trans ((hF643.1 3 rfl).trans ((hF626.1 3 rfl).trans (e_li)))))) (fk := fk2_934) (e_fk := show G930 16 = fk2_934 from (e939)) (tk0 := tk2_933) (e_tk0 := show G930 11 = tk2_933 from (e938))    (p_0 := by omega)) (fun o V' hq => ?_)
            obtain ⟨G955, A956, ln2_957, fk2_958, rfl, rfl, hW959, hF960, e961, e962, q963⟩ := hq
            have hF964 := Fr_tr hF943 hF960 (Fr_sub (by decide)) (Fr_sub (by decide))
            have hP965 := Pf_f hP944 hF960 (by decide)
            have sf966 : ND A956 (nd) (25) (nu) (0) (0) (0) (0) (0) := ND_ag (by omega) (Ag_fr hF960 (by decide)) sf945
            have ec967 : ecn A956 (G955 31) = ec2_624 := (ecn_f (hF960.2 15 rfl) (hF960.1 31 rfl)).trans ec946
            have bln2_957 : (0 : Int) ≤ ln2_957 ∧ ln2_957 ≤ 3000 := e961 ▸ hW959.1 9
            have bfk2_958 : (0 : Int) ≤ fk2_958 ∧ fk2_958 ≤ 6 := e962 ▸ hW959.1 16
            refine .inl ⟨rfl, ?_⟩
            rcases q963 with ⟨a968, a969, a970, a971, a972⟩ | ⟨a973, a974⟩
            · have _q : True := trivial
              exfalso
              omega
            · have _q : True := trivial
              refine jx_ld (pc' := 56) (l' := L637) (st' := [.int (i32 (nd))]) rfl (jl_iloadn gL637_2) ?_
              refine jx_rt (v := some (.int (i32 (nd)))) rfl rfl rfl rfl rfl rfl ?_
              exact ⟨_, _, _, at2_932, fk2_958, nd2_623, ln2_957, ec2_624, rfl, rfl, hW959, hF964, hP965, by omega, ((hF960.1 10 rfl).trans (e937)), (e962), ((hF960.1 31 rfl).trans ((hF936.1 31 rfl).trans ((hF794.1 31 rfl).trans ((hF643.1 31 rfl).trans (e628))))), (e961), ec967, by omega, by omega, by omega, by omega, by omega, by first | exact Or.inl (⟨by omega, by omega, by omega⟩)⟩
          · have _q : True := trivial
            have pz975 : at2_790 + tz tk2_933 ≤ at2_932 := by omega
            refine jx_ld (pc' := 52) (l' := L637) (st' := [.ref 66]) rfl (jl_aloadn gL637_0) ?_
            refine jx_vr (pc' := 55) (as := []) (st := []) rfl rfl rfl rfl ⟨rfl, rfl, Nat.le_of_ble_eq_true rfl⟩ rfl rfl (c_endLine (dd := d) (hd := by omega) (hW := hW935)  (ln := ln) (e_ln := show G930 9 = ln from ((hF936.1 9 rfl).trans ((hF794.1 9 rfl).trans ((hF643.1 9 rfl).trans ((hF626.1 9 rfl).trans (e_ln)))))) (li := li) (e_li := show G930 3 = li from ((hF936.1 3 rfl).trans ((hF794.1 3 rfl).trans ((hF643.1 3 rfl).trans ((hF626.1 3 rfl).trans (e_li)))))) (fk := fk2_934) (e_fk := show G930 16 = fk2_934 from (e939)) (tk0 := tk2_933) (e_tk0 := show G930 11 = tk2_933 from (e938))    (p_0 := by omega)) (fun o V' hq => ?_)
            obtain ⟨G976, A977, ln2_978, fk2_979, rfl, rfl, hW980, hF981, e982, e983, q984⟩ := hq
            have hF985 := Fr_tr hF943 hF981 (Fr_sub (by decide)) (Fr_sub (by decide))
            have hP986 := Pf_f hP944 hF981 (by decide)
            have sf987 : ND A977 (nd) (25) (nu) (0) (0) (0) (0) (0) := ND_ag (by omega) (Ag_fr hF981 (by decide)) sf945
            have ec988 : ecn A977 (G976 31) = ec2_624 := (ecn_f (hF981.2 15 rfl) (hF981.1 31 rfl)).trans ec946
            have bln2_978 : (0 : Int) ≤ ln2_978 ∧ ln2_978 ≤ 3000 := e982 ▸ hW980.1 9
            have bfk2_979 : (0 : Int) ≤ fk2_979 ∧ fk2_979 ≤ 6 := e983 ▸ hW980.1 16
            refine .inl ⟨rfl, ?_⟩
            rcases q984 with ⟨a989, a990, a991, a992, a993⟩ | ⟨a994, a995⟩
            · have _q : True := trivial
              refine jx_ld (pc' := 56) (l' := L637) (st' := [.int (i32 (nd))]) rfl (jl_iloadn gL637_2) ?_
              refine jx_rt (v := some (.int (i32 (nd)))) rfl rfl rfl rfl rfl rfl ?_
              exact ⟨_, _, _, at2_932, fk2_979, nd2_623, ln2_978, ec2_624, rfl, rfl, hW980, hF985, hP986, by omega, ((hF981.1 10 rfl).trans (e937)), (e983), ((hF981.1 31 rfl).trans ((hF936.1 31 rfl).trans ((hF794.1 31 rfl).trans ((hF643.1 31 rfl).trans (e628))))), (e982), ec988, by omega, by omega, by omega, by omega, by omega, by first | exact Or.inr ((⟨by omega, by omega, by omega, by omega, by omega, (wL_call (last := 0) sf987 (by omega) (by omega) (by omega) ((show A977 30 (nu).toNat = mp from (congrFun ((hF981.2 30 rfl).trans ((hF936.2 30 rfl).trans ((hF794.2 30 rfl).trans ((hF643.2 30 rfl).trans (hF626.2 30 rfl))))) _).trans (e_mp)).trans (by omega : mp = 0)) ((show A977 29 (nu).toNat = pp from (congrFun ((hF981.2 29 rfl).trans ((hF936.2 29 rfl).trans ((hF794.2 29 rfl).trans ((hF643.2 29 rfl).trans (hF626.2 29 rfl))))) _).trans (e_pp)).trans (by omega : pp = pp)) (CA_eq (CA_nil (lo := nd + 1) (ND_f0 sf987)) (by omega) (by omega) (by omega) (by omega) (by omega))), (NX_nd sf987), by omega⟩))⟩
            · have _q : True := trivial
              refine jx_ld (pc' := 56) (l' := L637) (st' := [.int (i32 (nd))]) rfl (jl_iloadn gL637_2) ?_
              refine jx_rt (v := some (.int (i32 (nd)))) rfl rfl rfl rfl rfl rfl ?_
              exact ⟨_, _, _, at2_932, fk2_979, nd2_623, ln2_978, ec2_624, rfl, rfl, hW980, hF985, hP986, by omega, ((hF981.1 10 rfl).trans (e937)), (e983), ((hF981.1 31 rfl).trans ((hF936.1 31 rfl).trans ((hF794.1 31 rfl).trans ((hF643.1 31 rfl).trans (e628))))), (e982), ec988, by omega, by omega, by omega, by omega, by omega, by first | exact Or.inl (⟨by omega, by omega, by omega⟩)⟩
        · have _q : True := trivial
          refine jx_vr (pc' := 51) (as := [.int (i32 (0))]) (st := []) rfl rfl rfl rfl ⟨rfl, rfl, Nat.le_of_ble_eq_true rfl⟩ rfl rfl (c_need (dd := d) (hd := by omega) (hW := hW793) (g := 0) (ln := ln) (e_ln := show G788 9 = ln from ((hF794.1 9 rfl).trans ((hF643.1 9 rfl).trans ((hF626.1 9 rfl).trans (e_ln))))) (le := le) (e_le := show A789 4 (ln).toNat = le from (congrFun ((hF794.2 4 rfl).trans ((hF643.2 4 rfl).trans (hF626.2 4 rfl))) _).trans (e_le)) (at0 := at2_790) (e_at0 := show G788 10 = at2_790 from (e795)) (fk := fk2_792) (e_fk := show G788 16 = fk2_792 from (e797)) (tk0 := tk2_791) (e_tk0 := show G788 11 = tk2_791 from (e796))  (h_g := ⟨(by decide), (by decide)⟩)  (p_0 := by omega)) (fun o V' hq => ?_)
          obtain ⟨G996, A997, at2_998, tk2_999, fk2_1000, rfl, rfl, hW1001, hF1002, e1003, e1004, e1005, p1006, p1007, q1008⟩ := hq
          have hF1009 := Fr_tr hF801 hF1002 (Fr_sub (by decide)) (Fr_sub (by decide))
          have hP1010 := Pf_f hP802 hF1002 (by decide)
          have sf1011 : ND A997 (nd) (25) (nu) (0) (0) (0) (0) (0) := ND_ag (by omega) (Ag_fr hF1002 (by decide)) sf803
          have ec1012 : ecn A997 (G996 31) = ec2_624 := (ecn_f (hF1002.2 15 rfl) (hF1002.1 31 rfl)).trans ec804
          have bat2_998 : (0 : Int) ≤ at2_998 ∧ at2_998 ≤ 3002 := e1003 ▸ hW1001.1 10
          have ztk2_999 := tz_b tk2_999
          have btk2_999 : (0 : Int) ≤ tk2_999 ∧ tk2_999 ≤ 5 := e1004 ▸ hW1001.1 11
          have bfk2_1000 : (0 : Int) ≤ fk2_1000 ∧ fk2_1000 ≤ 6 := e1005 ▸ hW1001.1 16
          refine .inl ⟨rfl, ?_⟩
          rcases q1008 with ⟨a1013, a1014, a1015, a1016⟩ | ⟨a1017, a1018, a1019, a1020⟩
          · have _q : True := trivial
            refine jx_ld (pc' := 52) (l' := L637) (st' := [.ref 66]) rfl (jl_aloadn gL637_0) ?_
            refine jx_vr (pc' := 55) (as := []) (st := []) rfl rfl rfl rfl ⟨rfl, rfl, Nat.le_of_ble_eq_true rfl⟩ rfl rfl (c_endLine (dd := d) (hd := by omega) (hW := hW1001)  (ln := ln) (e_ln := show G996 9 = ln from ((hF1002.1 9 rfl).trans ((hF794.1 9 rfl).trans ((hF643.1 9 rfl).trans ((hF626.1 9 rfl).trans (e_ln)))))) (li := li) (e_li := show G996 3 = li from ((hF1002.1 3 rfl).trans ((hF794.1 3 rfl).trans ((hF643.1 3 rfl).trans ((hF626.1 3 rfl).trans (e_li)))))) (fk := fk2_1000) (e_fk := show G996 16 = fk2_1000 from (e1005)) (tk0 := tk2_999) (e_tk0 := show G996 11 = tk2_999 from (e1004))    (p_0 := by omega)) (fun o V' hq => ?_)
            obtain ⟨G1021, A1022, ln2_1023, fk2_1024, rfl, rfl, hW1025, hF1026, e1027, e1028, q1029⟩ := hq
            have hF1030 := Fr_tr hF1009 hF1026 (Fr_sub (by decide)) (Fr_sub (by decide))
            have hP1031 := Pf_f hP1010 hF1026 (by decide)
            have sf1032 : ND A1022 (nd) (25) (nu) (0) (0) (0) (0) (0) := ND_ag (by omega) (Ag_fr hF1026 (by decide)) sf1011
            have ec1033 : ecn A1022 (G1021 31) = ec2_624 := (ecn_f (hF1026.2 15 rfl) (hF1026.1 31 rfl)).trans ec1012
            have bln2_1023 : (0 : Int) ≤ ln2_1023 ∧ ln2_1023 ≤ 3000 := e1027 ▸ hW1025.1 9
            have bfk2_1024 : (0 : Int) ≤ fk2_1024 ∧ fk2_1024 ≤ 6 := e1028 ▸ hW1025.1 16
            refine .inl ⟨rfl, ?_⟩
            rcases q1029 with ⟨a1034, a1035, a1036, a1037, a1038⟩ | ⟨a1039, a1040⟩
            · have _q : True := trivial
              exfalso
              omega
            · have _q : True := trivial
              refine jx_ld (pc' := 56) (l' := L637) (st' := [.int (i32 (nd))]) rfl (jl_iloadn gL637_2) ?_
              refine jx_rt (v := some (.int (i32 (nd)))) rfl rfl rfl rfl rfl rfl ?_
              exact ⟨_, _, _, at2_998, fk2_1024, nd2_623, ln2_1023, ec2_624, rfl, rfl, hW1025, hF1030, hP1031, by omega, ((hF1026.1 10 rfl).trans (e1003)), (e1028), ((hF1026.1 31 rfl).trans ((hF1002.1 31 rfl).trans ((hF794.1 31 rfl).trans ((hF643.1 31 rfl).trans (e628))))), (e1027), ec1033, by omega, by omega, by omega, by omega, by omega, by first | exact Or.inl (⟨by omega, by omega, by omega⟩)⟩
          · have _q : True := trivial
            exfalso
            omega
