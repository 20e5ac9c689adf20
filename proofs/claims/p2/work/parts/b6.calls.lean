set_option maxRecDepth 20000 in
set_option maxHeartbeats 4000000 in
theorem c_readArgument_w {X : jX} {dd : Nat} {Vs : Nat → Prop} {sb : Int} {c0 c1 : jC} {G : Nat → Int} {A : Nat → Nat → Int} {T : jH} {pa : Int} {ln le at0 fk op0 nd tk0 kp zp ec : Int} (hd : 70 ≤ dd) (hW : Wk G A) (e_ln : G 9 = ln) (e_le : A 4 (ln).toNat = le) (e_at0 : G 10 = at0) (e_fk : G 16 = fk) (e_op0 : G 15 = op0) (e_nd : G 31 = nd) (e_tk0 : G 11 = tk0) (e_kp : A 7 (pa).toNat = kp) (e_zp : A 8 (pa).toNat = zp) (e_ec : ecn A (G 31) = ec) (i_SV : SV Vs sb G A) (h_pa : (-2147483648 : Int) ≤ pa ∧ pa ≤ 2147483647) (p_0 : 0 ≤ op0) (p_1 : op0 ≤ 9) (p_2 : op0 ≤ 8 ∨ 1 ≤ fk) (p_3 : nd ≤ 2 * at0 - tz tk0 + 47) (p_4 : at0 ≤ le) (p_5 : fk = 0) (p_6 : op0 ≤ 8) (p_7 : 0 ≤ pa ∧ pa ≤ 208) (p_8 : 5 ≤ kp ∧ kp ≤ 8) (p_9 : pa < sb) : wk X dd 306 [.ref 66, .int (i32 pa)] (rV c0 c1 G A T) (fun o V' => ∃ (G' : Nat → Int) (A' : Nat → Nat → Int) (r : Int) (at2 : Int) (fk2 : Int) (op2 : Int) (nd2 : Int) (tk2 : Int) (ec2 : Int), V' = rV c0 c1 G' A' T ∧ o = .inl (some (.int (i32 r))) ∧ Wk G' A' ∧ Fr [10, 11, 12, 13, 14, 15, 16, 17, 18, 31] [15, 16, 17, 18, 19, 20, 21, 22, 24, 28] G A G' A' ∧ Pf nd A A' ∧ ((-2147483648 : Int) ≤ r ∧ r ≤ 2147483647) ∧ G' 10 = at2 ∧ G' 16 = fk2 ∧ G' 15 = op2 ∧ G' 31 = nd2 ∧ G' 11 = tk2 ∧ ecn A' (G' 31) = ec2 ∧ (at0 ≤ at2) ∧ (at2 ≤ le) ∧ (nd ≤ nd2) ∧ (op2 = op0) ∧ (0 ≤ r) ∧ (r ≤ nd2) ∧ (((fk = 0) ∧ (1 ≤ fk2) ∧ (nd2 - nd ≤ (2 * at2 - tz tk2) - (2 * at0 - tz tk0) + 3)) ∨ ((fk = 0) ∧ (fk2 = 0) ∧ (nd2 - nd ≤ (2 * at2 - tz tk2) - (2 * at0 - tz tk0) + 1) ∧ (nd ≤ r) ∧ (r < nd2) ∧ (wA A' Vs sb (pa) (r) (nd) (nd2)) ∧ (NX A' (r)) ∧ (nd2 - nd + 5 * (ec2 - ec) ≤ (2 * at2 - tz tk2) - (2 * at0 - tz tk0) + 1 - tz tk2) ∧ (nd + 5 * ec ≤ r - tz tk2)))) := by
  obtain ⟨d, rfl⟩ : ∃ d, dd = d + 1 := ⟨dd - 1, by omega⟩
  refine wk_of (e := jm306) rfl (Nat.le_of_ble_eq_true rfl) ?_
  show wj X d jm306 (0, [(0, .ref 66), (1, .int (i32 (pa)))], [], rV c0 c1 G A T) _
  have hF0 : Fr [10, 11, 12, 13, 14, 15, 16, 17, 18, 31] [15, 16, 17, 18, 19, 20, 21, 22, 24, 28] G A G A := Fr_rf
  have hP0 : Pf nd A A := Pf_rf
  have b_ln : (0 : Int) ≤ ln ∧ ln ≤ 3000 := e_ln ▸ hW.1 9
  have b_le : (0 : Int) ≤ le ∧ le ≤ 3000 := e_le ▸ hW.2 4 _
  have b_at0 : (0 : Int) ≤ at0 ∧ at0 ≤ 3002 := e_at0 ▸ hW.1 10
  have b_fk : (0 : Int) ≤ fk ∧ fk ≤ 6 := e_fk ▸ hW.1 16
  have b_op0 : (-2147483648 : Int) ≤ op0 ∧ op0 ≤ 2147483647 := e_op0 ▸ hW.1 15
  have b_nd : (0 : Int) ≤ nd ∧ nd ≤ 6999 := e_nd ▸ hW.1 31
  have z_tk0 := tz_f tk0
  have b_tk0 : (0 : Int) ≤ tk0 ∧ tk0 ≤ 5 := e_tk0 ▸ hW.1 11
  have b_kp : (0 : Int) ≤ kp ∧ kp ≤ 14 := e_kp ▸ hW.2 7 _
  have b_zp : (-2147483648 : Int) ≤ zp ∧ zp ≤ 2147483647 := e_zp ▸ hW.2 8 _
  refine jx_ld (pc' := 1) (l' := [(0, .ref 66), (1, .int (i32 (pa)))]) (st' := [.ref 66]) rfl (jl_aloadn rfl) ?_
  refine jr_get (pc' := 4) (i := 21) (v := .ref 74) rfl rfl (by decide) rfl rfl ?_
  refine jx_ld (pc' := 5) (l' := [(0, .ref 66), (1, .int (i32 (pa)))]) (st' := [.int (i32 (pa)), .ref 74]) rfl (jl_iloadn rfl) ?_
  refine jr_ldv (pc' := 6) (i := 7) (m := 260) (z := pa) (y := kp) rfl (by decide) rfl (by decide) (by omega) (by omega) rfl (show A 7 (pa).toNat = kp from (e_kp)) ?_
  refine jx_ld (pc' := 7) (l' := jSto1 [(0, .ref 66), (1, .int (i32 (pa)))] 2 (.int (i32 (kp)))) (st' := []) rfl rfl ?_
  obtain ⟨L1, eL1⟩ : ∃ q, q = jSto1 [(0, .ref 66), (1, .int (i32 (pa)))] 2 (.int (i32 (kp))) := ⟨_, rfl⟩
  rw [← eL1]
  have gL1_0 : jGet L1 0 = some (.ref 66) := eL1 ▸ jg_ne (by decide) (rfl : jGet [(0, .ref 66), (1, .int (i32 (pa)))] 0 = some (.ref 66)) rfl
  have gL1_1 : jGet L1 1 = some (.int (i32 (pa))) := eL1 ▸ jg_ne (by decide) (rfl : jGet [(0, .ref 66), (1, .int (i32 (pa)))] 1 = some (.int (i32 (pa)))) rfl
  have gL1_2 : jGet L1 2 = some (.int (i32 (kp))) := eL1 ▸ jg_eq
  refine jx_ar (pc' := 8) (st' := [.int (i32 (0))]) rfl rfl rfl rfl ?_
  refine jx_ld (pc' := 9) (l' := jSto1 L1 3 (.int (i32 (0)))) (st' := []) rfl rfl ?_
  obtain ⟨L2, eL2⟩ : ∃ q, q = jSto1 L1 3 (.int (i32 (0))) := ⟨_, rfl⟩
  rw [← eL2]
  have gL2_0 : jGet L2 0 = some (.ref 66) := eL2 ▸ jg_ne (by decide) gL1_0 rfl
  have gL2_1 : jGet L2 1 = some (.int (i32 (pa))) := eL2 ▸ jg_ne (by decide) gL1_1 rfl
  have gL2_2 : jGet L2 2 = some (.int (i32 (kp))) := eL2 ▸ jg_ne (by decide) gL1_2 rfl
  have gL2_3 : jGet L2 3 = some (.int (i32 (0))) := eL2 ▸ jg_eq
  refine jx_ld (pc' := 10) (l' := L2) (st' := [.ref 66]) rfl (jl_aloadn gL2_0) ?_
  refine jx_ar (pc' := 12) (st' := [.int (i32 (41)), .ref 66]) rfl rfl rfl rfl ?_
  have b3 : (-2147483648 : Int) ≤ G 13 ∧ G 13 ≤ 2147483647 := hW.1 13
  refine jx_vr (pc' := 15) (as := [.int (i32 (41))]) (st := []) rfl rfl rfl rfl ⟨rfl, rfl, Nat.le_of_ble_eq_true rfl⟩ rfl rfl (c_is (dd := d) (hd := by omega) (hW := hW) (k := 41) (tk := tk0) (e_tk := show G 11 = tk0 from (e_tk0)) (tn := G 13) (e_tn := show G 13 = G 13 from rfl)  (h_k := ⟨(by decide), (by decide)⟩)  ) (fun o V' hq => ?_)
  obtain ⟨r4, rfl, rfl, b5, q6⟩ := hq
  refine .inr ⟨_, rfl, ?_⟩
  rcases q6 with ⟨rfl, a7, a8, a9⟩ | rfl
  · have _q : True := trivial
    refine jx_if_eq (pc' := 18) (tg := 30) rfl rfl rfl (by decide) (by decide) (fun h10 => ?_) (fun h10 => ?_)
    · have _q := h10
      exact absurd h10 (by omega)
    · have _q := h10
      refine jx_ld (pc' := 19) (l' := L2) (st' := [.ref 66]) rfl (jl_aloadn gL2_0) ?_
      refine jx_ar (pc' := 20) (st' := [.int (i32 (4)), .ref 66]) rfl rfl rfl rfl ?_
      refine jx_ld (pc' := 21) (l' := L2) (st' := [.ref 66, .int (i32 (4)), .ref 66]) rfl (jl_aloadn gL2_0) ?_
      have b11 : (-3000 : Int) ≤ G 12 ∧ G 12 ≤ 3002 := hW.1 12
      refine jr_get (pc' := 24) (i := 12) (v := .int (i32 (G 12))) rfl rfl (by decide) rfl rfl ?_
      refine jx_vr (pc' := 27) (as := [.int (i32 (4)), .int (i32 (G 12))]) (st := []) rfl rfl rfl rfl ⟨rfl, rfl, Nat.le_of_ble_eq_true rfl⟩ rfl rfl (c_fail (dd := d) (hd := by omega) (hW := hW) (kind := 4) (place := G 12) (fk := fk) (e_fk := show G 16 = fk from (e_fk))  (h_kind := ⟨(by decide), (by decide)⟩) (h_place := ⟨(Int.le_trans (by decide : (-2147483648 : Int) ≤ -3000) b11.1), (Int.le_trans b11.2 (by decide : (3002 : Int) ≤ 2147483647))⟩)  (p_0 := by omega) (p_1 := by omega)) (fun o V' hq => ?_)
      obtain ⟨G12, A13, fk2_14, rfl, rfl, hW15, hF16, e17, p18, -⟩ := hq
      have hF20 := Fr_tr hF0 hF16 (Fr_sub (by decide)) (Fr_sub (by decide))
      have hP21 := Pf_f hP0 hF16 (by decide)
      have ec22 : ecn A13 (G12 31) = ec := (ecn_f (hF16.2 15 rfl) (hF16.1 31 rfl)).trans e_ec
      have bfk2_14 : (0 : Int) ≤ fk2_14 ∧ fk2_14 ≤ 6 := e17 ▸ hW15.1 16
      refine .inl ⟨rfl, ?_⟩
      refine jx_go (tg := 172) rfl rfl ?_
      refine jx_ld (pc' := 173) (l' := L2) (st' := [.ref 66]) rfl (jl_aloadn gL2_0) ?_
      refine jx_ar (pc' := 175) (st' := [.int (i32 (7)), .ref 66]) rfl rfl rfl rfl ?_
      refine jx_ld (pc' := 176) (l' := L2) (st' := [.int (i32 (0)), .int (i32 (7)), .ref 66]) rfl (jl_iloadn gL2_3) ?_
      refine jx_ld (pc' := 177) (l' := L2) (st' := [.int (i32 (pa)), .int (i32 (0)), .int (i32 (7)), .ref 66]) rfl (jl_iloadn gL2_1) ?_
      refine jx_ar (pc' := 178) (st' := [.int (i32 (0)), .int (i32 (pa)), .int (i32 (0)), .int (i32 (7)), .ref 66]) rfl rfl rfl rfl ?_
      refine jx_ar (pc' := 179) (st' := [.int (i32 (0)), .int (i32 (0)), .int (i32 (pa)), .int (i32 (0)), .int (i32 (7)), .ref 66]) rfl rfl rfl rfl ?_
      refine jx_vr (pc' := 182) (as := [.int (i32 (7)), .int (i32 (0)), .int (i32 (pa)), .int (i32 (0)), .int (i32 (0))]) (st := []) rfl rfl rfl rfl ⟨rfl, rfl, Nat.le_of_ble_eq_true rfl⟩ rfl rfl (c_node_o (dd := d) (hd := by omega) (hW := hW15) (kind := 7) (a := 0) (b := pa) (c := 0) (e := 0) (nd := nd) (e_nd := show G12 31 = nd from ((hF16.1 31 rfl).trans (e_nd))) (ec := ec) (e_ec := show ecn A13 (G12 31) = ec from ec22)  (h_kind := ⟨(by decide), (by decide)⟩) (h_a := ⟨(by decide), (by decide)⟩) (h_b := ⟨(Int.le_trans (by decide : (-2147483648 : Int) ≤ -2147483648) h_pa.1), (Int.le_trans h_pa.2 (by decide : (2147483647 : Int) ≤ 2147483647))⟩) (h_c := ⟨(by decide), (by decide)⟩) (h_e := ⟨(by decide), (by decide)⟩)  (p_0 := by omega) (p_1 := by omega) (p_2 := by omega)) (fun o V' hq => ?_)
      obtain ⟨G23, A24, nd2_25, ec2_26, rfl, rfl, hW27, hF28, hQ29, e30, e31, p32, p33, p34, -⟩ := hq
      have hF36 := Fr_tr hF20 hF28 (Fr_sub (by decide)) (Fr_sub (by decide))
      have hP37 := Pf_tr hP21 hQ29 (by omega)
      have bnd2_25 : (0 : Int) ≤ nd2_25 ∧ nd2_25 ≤ 6999 := e30 ▸ hW27.1 31
      refine .inr ⟨_, rfl, ?_⟩
      refine jx_rt (v := some (.int (i32 (nd)))) rfl rfl rfl rfl rfl rfl ?_
      have z38 := tz_f (tk0)
      exact ⟨_, _, _, at0, fk2_14, op0, nd2_25, tk0, ec2_26, rfl, rfl, hW27, hF36, hP37, by omega, ((hF28.1 10 rfl).trans ((hF16.1 10 rfl).trans (e_at0))), ((hF28.1 16 rfl).trans (e17)), ((hF28.1 15 rfl).trans ((hF16.1 15 rfl).trans (e_op0))), (e30), ((hF28.1 11 rfl).trans ((hF16.1 11 rfl).trans (e_tk0))), e31, by omega, by omega, by omega, by omega, by omega, by omega, by first | exact Or.inl (⟨by omega, by omega, by omega⟩)⟩
  · have _q : True := trivial
    refine jx_if_eq (pc' := 18) (tg := 30) rfl rfl rfl (by decide) (by decide) (fun h39 => ?_) (fun h39 => ?_)
    · have _q := h39
      refine jx_ld (pc' := 31) (l' := L2) (st' := [.int (i32 (kp))]) rfl (jl_iloadn gL2_2) ?_
      refine jx_ar (pc' := 32) (st' := [.int (i32 (5)), .int (i32 (kp))]) rfl rfl rfl rfl ?_
      refine jx_icmp_ne (pc' := 35) (tg := 43) rfl rfl rfl (Int.le_trans (by decide : (-2147483648 : Int) ≤ 0) b_kp.1) (Int.le_trans b_kp.2 (by decide : (14 : Int) ≤ 2147483647)) (by decide) (by decide) (fun h40 => ?_) (fun h40 => ?_)
      · have _q := h40
        refine jx_ld (pc' := 44) (l' := L2) (st' := [.ref 66]) rfl (jl_aloadn gL2_0) ?_
        have z41 := tz_f (tk0)
        refine jr_get (pc' := 47) (i := 11) (v := .int (i32 (tk0))) rfl rfl (by decide) (rFv_eq (by decide) (show G 11 = tk0 from (e_tk0))) rfl ?_
        refine jx_ar (pc' := 48) (st' := [.int (i32 (1)), .int (i32 (tk0))]) rfl rfl rfl rfl ?_
        refine jx_icmp_eq (pc' := 51) (tg := 63) rfl rfl rfl (Int.le_trans (by decide : (-2147483648 : Int) ≤ 0) b_tk0.1) (Int.le_trans b_tk0.2 (by decide : (5 : Int) ≤ 2147483647)) (by decide) (by decide) (fun h42 => ?_) (fun h42 => ?_)
        · have _q := h42
          refine jx_ld (pc' := 64) (l' := L2) (st' := [.ref 66]) rfl (jl_aloadn gL2_0) ?_
          have b43 : (-3000 : Int) ≤ G 12 ∧ G 12 ≤ 3002 := hW.1 12
          refine jr_get (pc' := 67) (i := 12) (v := .int (i32 (G 12))) rfl rfl (by decide) rfl rfl ?_
          refine jx_ld (pc' := 69) (l' := jSto1 L2 4 (.int (i32 (G 12)))) (st' := []) rfl rfl ?_
          obtain ⟨L44, eL44⟩ : ∃ q, q = jSto1 L2 4 (.int (i32 (G 12))) := ⟨_, rfl⟩
          rw [← eL44]
          have gL44_0 : jGet L44 0 = some (.ref 66) := eL44 ▸ jg_ne (by decide) gL2_0 rfl
          have gL44_1 : jGet L44 1 = some (.int (i32 (pa))) := eL44 ▸ jg_ne (by decide) gL2_1 rfl
          have gL44_2 : jGet L44 2 = some (.int (i32 (kp))) := eL44 ▸ jg_ne (by decide) gL2_2 rfl
          have gL44_3 : jGet L44 3 = some (.int (i32 (0))) := eL44 ▸ jg_ne (by decide) gL2_3 rfl
          have gL44_4 : jGet L44 4 = some (.int (i32 (G 12))) := eL44 ▸ jg_eq
          refine jx_ld (pc' := 70) (l' := L44) (st' := [.ref 66]) rfl (jl_aloadn gL44_0) ?_
          refine jx_vr (pc' := 73) (as := []) (st := []) rfl rfl rfl rfl ⟨rfl, rfl, Nat.le_of_ble_eq_true rfl⟩ rfl rfl (c_lookUp (dd := d) (hd := by omega) (hW := hW)  (fk := fk) (e_fk := show G 16 = fk from (e_fk)) (i_SV := (SV_ext (rfl) (rfl) i_SV))   ) (fun o V' hq => ?_)
          obtain ⟨G45, A46, r47, fk2_48, rfl, rfl, hW49, hF50, b51, e52, q53⟩ := hq
          have hF54 := Fr_tr hF0 hF50 (Fr_sub (by decide)) (Fr_sub (by decide))
          have hP55 := Pf_f hP0 hF50 (by decide)
          have ec56 : ecn A46 (G45 31) = ec := (ecn_f (hF50.2 15 rfl) (hF50.1 31 rfl)).trans e_ec
          have bfk2_48 : (0 : Int) ≤ fk2_48 ∧ fk2_48 ≤ 6 := e52 ▸ hW49.1 16
          refine .inr ⟨_, rfl, ?_⟩
          rcases q53 with ⟨a57, a58⟩ | ⟨a59, a60, a61, a62⟩
          · have _q : True := trivial
            refine jx_ld (pc' := 75) (l' := jSto1 L44 5 (.int (i32 (r47)))) (st' := []) rfl rfl ?_
            obtain ⟨L63, eL63⟩ : ∃ q, q = jSto1 L44 5 (.int (i32 (r47))) := ⟨_, rfl⟩
            rw [← eL63]
            have gL63_0 : jGet L63 0 = some (.ref 66) := eL63 ▸ jg_ne (by decide) gL44_0 rfl
            have gL63_1 : jGet L63 1 = some (.int (i32 (pa))) := eL63 ▸ jg_ne (by decide) gL44_1 rfl
            have gL63_2 : jGet L63 2 = some (.int (i32 (kp))) := eL63 ▸ jg_ne (by decide) gL44_2 rfl
            have gL63_3 : jGet L63 3 = some (.int (i32 (0))) := eL63 ▸ jg_ne (by decide) gL44_3 rfl
            have gL63_4 : jGet L63 4 = some (.int (i32 (G 12))) := eL63 ▸ jg_ne (by decide) gL44_4 rfl
            have gL63_5 : jGet L63 5 = some (.int (i32 (r47))) := eL63 ▸ jg_eq
            refine jx_ld (pc' := 76) (l' := L63) (st' := [.ref 66]) rfl (jl_aloadn gL63_0) ?_
            refine jx_vr (pc' := 79) (as := []) (st := []) rfl rfl rfl rfl ⟨rfl, rfl, Nat.le_of_ble_eq_true rfl⟩ rfl rfl (c_bad (dd := d) (hd := by omega) (hW := hW49)  (fk := fk2_48) (e_fk := show G45 16 = fk2_48 from (e52))    ) (fun o V' hq => ?_)
            obtain ⟨r64, rfl, rfl, b65, q66⟩ := hq
            refine .inr ⟨_, rfl, ?_⟩
            rcases q66 with ⟨rfl, a67⟩ | ⟨rfl, a68⟩
            · have _q : True := trivial
              refine jx_if_eq (pc' := 82) (tg := 84) rfl rfl rfl (by decide) (by decide) (fun h69 => ?_) (fun h69 => ?_)
              · have _q := h69
                exact absurd h69 (by omega)
              · have _q := h69
                refine jx_ar (pc' := 83) (st' := [.int (i32 (0))]) rfl rfl rfl rfl ?_
                refine jx_rt (v := some (.int (i32 (0)))) rfl rfl rfl rfl rfl rfl ?_
                have z70 := tz_f (tk0)
                exact ⟨_, _, _, at0, fk2_48, op0, nd, tk0, ec, rfl, rfl, hW49, hF54, hP55, by omega, ((hF50.1 10 rfl).trans (e_at0)), (e52), ((hF50.1 15 rfl).trans (e_op0)), ((hF50.1 31 rfl).trans (e_nd)), ((hF50.1 11 rfl).trans (e_tk0)), ec56, by omega, by omega, by omega, by omega, by omega, by omega, by first | exact Or.inl (⟨by omega, by omega, by omega⟩)⟩
            · have _q : True := trivial
              exfalso
              omega
          · have _q : True := trivial
            refine jx_ld (pc' := 75) (l' := jSto1 L44 5 (.int (i32 (r47)))) (st' := []) rfl rfl ?_
            obtain ⟨L71, eL71⟩ : ∃ q, q = jSto1 L44 5 (.int (i32 (r47))) := ⟨_, rfl⟩
            rw [← eL71]
            have gL71_0 : jGet L71 0 = some (.ref 66) := eL71 ▸ jg_ne (by decide) gL44_0 rfl
            have gL71_1 : jGet L71 1 = some (.int (i32 (pa))) := eL71 ▸ jg_ne (by decide) gL44_1 rfl
            have gL71_2 : jGet L71 2 = some (.int (i32 (kp))) := eL71 ▸ jg_ne (by decide) gL44_2 rfl
            have gL71_3 : jGet L71 3 = some (.int (i32 (0))) := eL71 ▸ jg_ne (by decide) gL44_3 rfl
            have gL71_4 : jGet L71 4 = some (.int (i32 (G 12))) := eL71 ▸ jg_ne (by decide) gL44_4 rfl
            have gL71_5 : jGet L71 5 = some (.int (i32 (r47))) := eL71 ▸ jg_eq
            refine jx_ld (pc' := 76) (l' := L71) (st' := [.ref 66]) rfl (jl_aloadn gL71_0) ?_
            refine jx_vr (pc' := 79) (as := []) (st := []) rfl rfl rfl rfl ⟨rfl, rfl, Nat.le_of_ble_eq_true rfl⟩ rfl rfl (c_bad (dd := d) (hd := by omega) (hW := hW49)  (fk := fk2_48) (e_fk := show G45 16 = fk2_48 from (e52))    ) (fun o V' hq => ?_)
            obtain ⟨r72, rfl, rfl, b73, q74⟩ := hq
            refine .inr ⟨_, rfl, ?_⟩
            rcases q74 with ⟨rfl, a75⟩ | ⟨rfl, a76⟩
            · have _q : True := trivial
              exfalso
              omega
            · have _q : True := trivial
              refine jx_if_eq (pc' := 82) (tg := 84) rfl rfl rfl (by decide) (by decide) (fun h77 => ?_) (fun h77 => ?_)
              · have _q := h77
                refine jx_ld (pc' := 85) (l' := L71) (st' := [.int (i32 (kp))]) rfl (jl_iloadn gL71_2) ?_
                refine jx_ar (pc' := 87) (st' := [.int (i32 (7)), .int (i32 (kp))]) rfl rfl rfl rfl ?_
                refine jx_icmp_ne (pc' := 90) (tg := 128) rfl rfl rfl (Int.le_trans (by decide : (-2147483648 : Int) ≤ 0) b_kp.1) (Int.le_trans b_kp.2 (by decide : (14 : Int) ≤ 2147483647)) (by decide) (by decide) (fun h78 => ?_) (fun h78 => ?_)
                · have _q := h78
                  refine jx_ld (pc' := 129) (l' := L71) (st' := [.ref 66]) rfl (jl_aloadn gL71_0) ?_
                  refine jx_vr (pc' := 132) (as := []) (st := []) rfl rfl rfl rfl ⟨rfl, rfl, Nat.le_of_ble_eq_true rfl⟩ rfl rfl (c_next (dd := d) (hd := by omega) (hW := hW49)  (ln := ln) (e_ln := show G45 9 = ln from ((hF50.1 9 rfl).trans (e_ln))) (le := le) (e_le := show A46 4 (ln).toNat = le from (congrFun (hF50.2 4 rfl) _).trans (e_le)) (at0 := at0) (e_at0 := show G45 10 = at0 from ((hF50.1 10 rfl).trans (e_at0)))    (p_0 := by omega)) (fun o V' hq => ?_)
                  obtain ⟨G79, A80, at2_81, tk2_82, rfl, rfl, hW83, hF84, e85, e86, p87, p88, p89, -⟩ := hq
                  have hF91 := Fr_tr hF54 hF84 (Fr_sub (by decide)) (Fr_sub (by decide))
                  have hP92 := Pf_f hP55 hF84 (by decide)
                  have ec93 : ecn A80 (G79 31) = ec := (ecn_f (hF84.2 15 rfl) (hF84.1 31 rfl)).trans ec56
                  have bat2_81 : (0 : Int) ≤ at2_81 ∧ at2_81 ≤ 3002 := e85 ▸ hW83.1 10
                  have ztk2_82 := tz_b tk2_82
                  have btk2_82 : (0 : Int) ≤ tk2_82 ∧ tk2_82 ≤ 5 := e86 ▸ hW83.1 11
                  refine .inl ⟨rfl, ?_⟩
                  refine jx_ld (pc' := 133) (l' := L71) (st' := [.int (i32 (kp))]) rfl (jl_iloadn gL71_2) ?_
                  refine jx_ar (pc' := 135) (st' := [.int (i32 (7)), .int (i32 (kp))]) rfl rfl rfl rfl ?_
                  refine jx_icmp_ne (pc' := 138) (tg := 152) rfl rfl rfl (Int.le_trans (by decide : (-2147483648 : Int) ≤ 0) b_kp.1) (Int.le_trans b_kp.2 (by decide : (14 : Int) ≤ 2147483647)) (by decide) (by decide) (fun h94 => ?_) (fun h94 => ?_)
                  · have _q := h94
                    refine jx_ld (pc' := 153) (l' := L71) (st' := [.ref 66]) rfl (jl_aloadn gL71_0) ?_
                    refine jx_ld (pc' := 155) (l' := L71) (st' := [.int (i32 (r47)), .ref 66]) rfl (jl_iload gL71_5) ?_
                    refine jx_ld (pc' := 157) (l' := L71) (st' := [.int (i32 (G 12)), .int (i32 (r47)), .ref 66]) rfl (jl_iload gL71_4) ?_
                    refine jx_ld (pc' := 158) (l' := L71) (st' := [.int (i32 (kp)), .int (i32 (G 12)), .int (i32 (r47)), .ref 66]) rfl (jl_iloadn gL71_2) ?_
                    refine jx_ar (pc' := 160) (st' := [.int (i32 (8)), .int (i32 (kp)), .int (i32 (G 12)), .int (i32 (r47)), .ref 66]) rfl rfl rfl rfl ?_
                    refine jx_icmp_ne (pc' := 163) (tg := 167) rfl rfl rfl (Int.le_trans (by decide : (-2147483648 : Int) ≤ 0) b_kp.1) (Int.le_trans b_kp.2 (by decide : (14 : Int) ≤ 2147483647)) (by decide) (by decide) (fun h95 => ?_) (fun h95 => ?_)
                    · have _q := h95
                      refine jx_ar (pc' := 168) (st' := [.int (i32 (0)), .int (i32 (G 12)), .int (i32 (r47)), .ref 66]) rfl rfl rfl rfl ?_
                      refine jx_vr (pc' := 171) (as := [.int (i32 (r47)), .int (i32 (G 12)), .int (i32 (0))]) (st := []) rfl rfl rfl rfl ⟨rfl, rfl, Nat.le_of_ble_eq_true rfl⟩ rfl rfl (c_readBehind_w (dd := d) (hd := by omega) (hW := hW83) (s := r47) (place := G 12) (ch := 0) (ln := ln) (e_ln := show G79 9 = ln from ((hF84.1 9 rfl).trans ((hF50.1 9 rfl).trans (e_ln)))) (le := le) (e_le := show A80 4 (ln).toNat = le from (congrFun ((hF84.2 4 rfl).trans (hF50.2 4 rfl)) _).trans (e_le)) (at0 := at2_81) (e_at0 := show G79 10 = at2_81 from (e85)) (fk := fk2_48) (e_fk := show G79 16 = fk2_48 from ((hF84.1 16 rfl).trans (e52))) (op0 := op0) (e_op0 := show G79 15 = op0 from ((hF84.1 15 rfl).trans ((hF50.1 15 rfl).trans (e_op0)))) (nd := nd) (e_nd := show G79 31 = nd from ((hF84.1 31 rfl).trans ((hF50.1 31 rfl).trans (e_nd)))) (tk0 := tk2_82) (e_tk0 := show G79 11 = tk2_82 from (e86)) (ec := ec) (e_ec := show ecn A80 (G79 31) = ec from ec93) (i_SV := (SV_ext (((hF84.1 29 rfl).trans (hF50.1 29 rfl))) (((hF84.2 14 rfl).trans (hF50.2 14 rfl))) i_SV)) (h_s := ⟨(Int.le_trans (by decide : (-2147483648 : Int) ≤ -2147483648) b51.1), (Int.le_trans b51.2 (by decide : (2147483647 : Int) ≤ 2147483647))⟩) (h_place := ⟨(Int.le_trans (by decide : (-2147483648 : Int) ≤ -3000) b43.1), (Int.le_trans b43.2 (by decide : (3002 : Int) ≤ 2147483647))⟩) (h_ch := ⟨(by decide), (by decide)⟩)  (p_0 := by omega) (p_1 := by omega) (p_2 := by omega) (p_3 := by omega) (p_4 := by omega) (p_5 := by omega) (p_6 := by omega) (p_7 := by omega) (p_8 := by omega) (p_9 := a62)) (fun o V' hq => ?_)
                      obtain ⟨G96, A97, r98, at2_99, fk2_100, op2_101, nd2_102, tk2_103, ec2_104, rfl, rfl, hW105, hF106, hQ107, b108, e109, e110, e111, e112, e113, e114, p115, p116, p117, p118, p119, p120, q121⟩ := hq
                      have hF122 := Fr_tr hF91 hF106 (Fr_sub (by decide)) (Fr_sub (by decide))
                      have hP123 := Pf_tr hP92 hQ107 (by omega)
                      have bat2_99 : (0 : Int) ≤ at2_99 ∧ at2_99 ≤ 3002 := e109 ▸ hW105.1 10
                      have bfk2_100 : (0 : Int) ≤ fk2_100 ∧ fk2_100 ≤ 6 := e110 ▸ hW105.1 16
                      have bop2_101 : (-2147483648 : Int) ≤ op2_101 ∧ op2_101 ≤ 2147483647 := e111 ▸ hW105.1 15
                      have bnd2_102 : (0 : Int) ≤ nd2_102 ∧ nd2_102 ≤ 6999 := e112 ▸ hW105.1 31
                      have ztk2_103 := tz_b tk2_103
                      have btk2_103 : (0 : Int) ≤ tk2_103 ∧ tk2_103 ≤ 5 := e113 ▸ hW105.1 11
                      refine .inr ⟨_, rfl, ?_⟩
                      rcases q121 with ⟨a124, a125, a126⟩ | ⟨a127, a128, a129, a130, a131⟩
                      · have _q : True := trivial
                        refine jx_ld (pc' := 172) (l' := jSto1 L71 3 (.int (i32 (r98)))) (st' := []) rfl rfl ?_
                        obtain ⟨L132, eL132⟩ : ∃ q, q = jSto1 L71 3 (.int (i32 (r98))) := ⟨_, rfl⟩
                        rw [← eL132]
                        have gL132_0 : jGet L132 0 = some (.ref 66) := eL132 ▸ jg_ne (by decide) gL71_0 rfl
                        have gL132_1 : jGet L132 1 = some (.int (i32 (pa))) := eL132 ▸ jg_ne (by decide) gL71_1 rfl
                        have gL132_2 : jGet L132 2 = some (.int (i32 (kp))) := eL132 ▸ jg_ne (by decide) gL71_2 rfl
                        have gL132_4 : jGet L132 4 = some (.int (i32 (G 12))) := eL132 ▸ jg_ne (by decide) gL71_4 rfl
                        have gL132_5 : jGet L132 5 = some (.int (i32 (r47))) := eL132 ▸ jg_ne (by decide) gL71_5 rfl
                        have gL132_3 : jGet L132 3 = some (.int (i32 (r98))) := eL132 ▸ jg_eq
                        refine jx_ld (pc' := 173) (l' := L132) (st' := [.ref 66]) rfl (jl_aloadn gL132_0) ?_
                        refine jx_ar (pc' := 175) (st' := [.int (i32 (7)), .ref 66]) rfl rfl rfl rfl ?_
                        refine jx_ld (pc' := 176) (l' := L132) (st' := [.int (i32 (r98)), .int (i32 (7)), .ref 66]) rfl (jl_iloadn gL132_3) ?_
                        refine jx_ld (pc' := 177) (l' := L132) (st' := [.int (i32 (pa)), .int (i32 (r98)), .int (i32 (7)), .ref 66]) rfl (jl_iloadn gL132_1) ?_
                        refine jx_ar (pc' := 178) (st' := [.int (i32 (0)), .int (i32 (pa)), .int (i32 (r98)), .int (i32 (7)), .ref 66]) rfl rfl rfl rfl ?_
                        refine jx_ar (pc' := 179) (st' := [.int (i32 (0)), .int (i32 (0)), .int (i32 (pa)), .int (i32 (r98)), .int (i32 (7)), .ref 66]) rfl rfl rfl rfl ?_
                        refine jx_vr (pc' := 182) (as := [.int (i32 (7)), .int (i32 (r98)), .int (i32 (pa)), .int (i32 (0)), .int (i32 (0))]) (st := []) rfl rfl rfl rfl ⟨rfl, rfl, Nat.le_of_ble_eq_true rfl⟩ rfl rfl (c_node_o (dd := d) (hd := by omega) (hW := hW105) (kind := 7) (a := r98) (b := pa) (c := 0) (e := 0) (nd := nd2_102) (e_nd := show G96 31 = nd2_102 from (e112)) (ec := ec2_104) (e_ec := show ecn A97 (G96 31) = ec2_104 from e114)  (h_kind := ⟨(by decide), (by decide)⟩) (h_a := ⟨(Int.le_trans (by decide : (-2147483648 : Int) ≤ -2147483648) b108.1), (Int.le_trans b108.2 (by decide : (2147483647 : Int) ≤ 2147483647))⟩) (h_b := ⟨(Int.le_trans (by decide : (-2147483648 : Int) ≤ -2147483648) h_pa.1), (Int.le_trans h_pa.2 (by decide : (2147483647 : Int) ≤ 2147483647))⟩) (h_c := ⟨(by decide), (by decide)⟩) (h_e := ⟨(by decide), (by decide)⟩)  (p_0 := by omega) (p_1 := by omega) (p_2 := by omega)) (fun o V' hq => ?_)
                        obtain ⟨G133, A134, nd2_135, ec2_136, rfl, rfl, hW137, hF138, hQ139, e140, e141, p142, p143, p144, -⟩ := hq
                        have hF146 := Fr_tr hF122 hF138 (Fr_sub (by decide)) (Fr_sub (by decide))
                        have hP147 := Pf_tr hP123 hQ139 (by omega)
                        have bnd2_135 : (0 : Int) ≤ nd2_135 ∧ nd2_135 ≤ 6999 := e140 ▸ hW137.1 31
                        refine .inr ⟨_, rfl, ?_⟩
                        refine jx_rt (v := some (.int (i32 (nd2_102)))) rfl rfl rfl rfl rfl rfl ?_
                        have z148 := tz_f (tk2_103)
                        exact ⟨_, _, _, at2_99, fk2_100, op2_101, nd2_135, tk2_103, ec2_136, rfl, rfl, hW137, hF146, hP147, by omega, ((hF138.1 10 rfl).trans (e109)), ((hF138.1 16 rfl).trans (e110)), ((hF138.1 15 rfl).trans (e111)), (e140), ((hF138.1 11 rfl).trans (e113)), e141, by omega, by omega, by omega, by omega, by omega, by omega, by first | exact Or.inl (⟨by omega, by omega, by omega⟩)⟩
                      · have _q : True := trivial
                        refine jx_ld (pc' := 172) (l' := jSto1 L71 3 (.int (i32 (r98)))) (st' := []) rfl rfl ?_
                        obtain ⟨L149, eL149⟩ : ∃ q, q = jSto1 L71 3 (.int (i32 (r98))) := ⟨_, rfl⟩
                        rw [← eL149]
                        have gL149_0 : jGet L149 0 = some (.ref 66) := eL149 ▸ jg_ne (by decide) gL71_0 rfl
                        have gL149_1 : jGet L149 1 = some (.int (i32 (pa))) := eL149 ▸ jg_ne (by decide) gL71_1 rfl
                        have gL149_2 : jGet L149 2 = some (.int (i32 (kp))) := eL149 ▸ jg_ne (by decide) gL71_2 rfl
                        have gL149_4 : jGet L149 4 = some (.int (i32 (G 12))) := eL149 ▸ jg_ne (by decide) gL71_4 rfl
                        have gL149_5 : jGet L149 5 = some (.int (i32 (r47))) := eL149 ▸ jg_ne (by decide) gL71_5 rfl
                        have gL149_3 : jGet L149 3 = some (.int (i32 (r98))) := eL149 ▸ jg_eq
                        refine jx_ld (pc' := 173) (l' := L149) (st' := [.ref 66]) rfl (jl_aloadn gL149_0) ?_
                        refine jx_ar (pc' := 175) (st' := [.int (i32 (7)), .ref 66]) rfl rfl rfl rfl ?_
                        refine jx_ld (pc' := 176) (l' := L149) (st' := [.int (i32 (r98)), .int (i32 (7)), .ref 66]) rfl (jl_iloadn gL149_3) ?_
                        refine jx_ld (pc' := 177) (l' := L149) (st' := [.int (i32 (pa)), .int (i32 (r98)), .int (i32 (7)), .ref 66]) rfl (jl_iloadn gL149_1) ?_
                        refine jx_ar (pc' := 178) (st' := [.int (i32 (0)), .int (i32 (pa)), .int (i32 (r98)), .int (i32 (7)), .ref 66]) rfl rfl rfl rfl ?_
                        refine jx_ar (pc' := 179) (st' := [.int (i32 (0)), .int (i32 (0)), .int (i32 (pa)), .int (i32 (r98)), .int (i32 (7)), .ref 66]) rfl rfl rfl rfl ?_
                        refine jx_vr (pc' := 182) (as := [.int (i32 (7)), .int (i32 (r98)), .int (i32 (pa)), .int (i32 (0)), .int (i32 (0))]) (st := []) rfl rfl rfl rfl ⟨rfl, rfl, Nat.le_of_ble_eq_true rfl⟩ rfl rfl (c_node_o (dd := d) (hd := by omega) (hW := hW105) (kind := 7) (a := r98) (b := pa) (c := 0) (e := 0) (nd := nd2_102) (e_nd := show G96 31 = nd2_102 from (e112)) (ec := ec2_104) (e_ec := show ecn A97 (G96 31) = ec2_104 from e114)  (h_kind := ⟨(by decide), (by decide)⟩) (h_a := ⟨(Int.le_trans (by decide : (-2147483648 : Int) ≤ -2147483648) b108.1), (Int.le_trans b108.2 (by decide : (2147483647 : Int) ≤ 2147483647))⟩) (h_b := ⟨(Int.le_trans (by decide : (-2147483648 : Int) ≤ -2147483648) h_pa.1), (Int.le_trans h_pa.2 (by decide : (2147483647 : Int) ≤ 2147483647))⟩) (h_c := ⟨(by decide), (by decide)⟩) (h_e := ⟨(by decide), (by decide)⟩)  (p_0 := by omega) (p_1 := by omega) (p_2 := by omega)) (fun o V' hq => ?_)
                        obtain ⟨G150, A151, nd2_152, ec2_153, rfl, rfl, hW154, hF155, hQ156, e157, e158, p159, p160, p161, -⟩ := hq
                        have hF163 := Fr_tr hF122 hF155 (Fr_sub (by decide)) (Fr_sub (by decide))
                        have hP164 := Pf_tr hP123 hQ156 (by omega)
                        have sf165 : wR A151 Vs sb (20) (0) (r98) (nd) (nd2_102) := wR_ag (by omega) (Sg_fr hF155 (by decide)) (Ag_pf hQ156 (by omega)) a130
                        have bnd2_152 : (0 : Int) ≤ nd2_152 ∧ nd2_152 ≤ 6999 := e157 ▸ hW154.1 31
                        refine .inr ⟨_, rfl, ?_⟩
                        refine jx_rt (v := some (.int (i32 (nd2_102)))) rfl rfl rfl rfl rfl rfl ?_
                        have z166 := tz_f (tk2_103)
                        exact ⟨_, _, _, at2_99, fk2_100, op2_101, nd2_152, tk2_103, ec2_153, rfl, rfl, hW154, hF163, hP164, by omega, ((hF155.1 10 rfl).trans (e109)), ((hF155.1 16 rfl).trans (e110)), ((hF155.1 15 rfl).trans (e111)), (e157), ((hF155.1 11 rfl).trans (e113)), e158, by omega, by omega, by omega, by omega, by omega, by omega, by first | exact Or.inr ((⟨by omega, by omega, by omega, by omega, by omega, (wA_mk p161 (by omega) (by omega) (by omega) (by omega) (.inr (.inl ⟨((show A151 7 (pa).toNat = kp from (congrFun ((hF155.2 7 rfl).trans ((hF106.2 7 rfl).trans ((hF84.2 7 rfl).trans (hF50.2 7 rfl)))) _).trans (e_kp)).trans (by omega : kp = 6)), (wR_mono (by omega) (by omega) (by omega) sf165)⟩))), (NX_nd p161), by omega, by omega⟩))⟩
                    · have _q := h95
                      refine jx_ar (pc' := 164) (st' := [.int (i32 (1)), .int (i32 (G 12)), .int (i32 (r47)), .ref 66]) rfl rfl rfl rfl ?_
                      refine jx_go (tg := 168) rfl rfl ?_
                      refine jx_vr (pc' := 171) (as := [.int (i32 (r47)), .int (i32 (G 12)), .int (i32 (1))]) (st := []) rfl rfl rfl rfl ⟨rfl, rfl, Nat.le_of_ble_eq_true rfl⟩ rfl rfl (c_readBehind_w (dd := d) (hd := by omega) (hW := hW83) (s := r47) (place := G 12) (ch := 1) (ln := ln) (e_ln := show G79 9 = ln from ((hF84.1 9 rfl).trans ((hF50.1 9 rfl).trans (e_ln)))) (le := le) (e_le := show A80 4 (ln).toNat = le from (congrFun ((hF84.2 4 rfl).trans (hF50.2 4 rfl)) _).trans (e_le)) (at0 := at2_81) (e_at0 := show G79 10 = at2_81 from (e85)) (fk := fk2_48) (e_fk := show G79 16 = fk2_48 from ((hF84.1 16 rfl).trans (e52))) (op0 := op0) (e_op0 := show G79 15 = op0 from ((hF84.1 15 rfl).trans ((hF50.1 15 rfl).trans (e_op0)))) (nd := nd) (e_nd := show G79 31 = nd from ((hF84.1 31 rfl).trans ((hF50.1 31 rfl).trans (e_nd)))) (tk0 := tk2_82) (e_tk0 := show G79 11 = tk2_82 from (e86)) (ec := ec) (e_ec := show ecn A80 (G79 31) = ec from ec93) (i_SV := (SV_ext (((hF84.1 29 rfl).trans (hF50.1 29 rfl))) (((hF84.2 14 rfl).trans (hF50.2 14 rfl))) i_SV)) (h_s := ⟨(Int.le_trans (by decide : (-2147483648 : Int) ≤ -2147483648) b51.1), (Int.le_trans b51.2 (by decide : (2147483647 : Int) ≤ 2147483647))⟩) (h_place := ⟨(Int.le_trans (by decide : (-2147483648 : Int) ≤ -3000) b43.1), (Int.le_trans b43.2 (by decide : (3002 : Int) ≤ 2147483647))⟩) (h_ch := ⟨(by decide), (by decide)⟩)  (p_0 := by omega) (p_1 := by omega) (p_2 := by omega) (p_3 := by omega) (p_4 := by omega) (p_5 := by omega) (p_6 := by omega) (p_7 := by omega) (p_8 := by omega) (p_9 := a62)) (fun o V' hq => ?_)
                      obtain ⟨G167, A168, r169, at2_170, fk2_171, op2_172, nd2_173, tk2_174, ec2_175, rfl, rfl, hW176, hF177, hQ178, b179, e180, e181, e182, e183, e184, e185, p186, p187, p188, p189, p190, p191, q192⟩ := hq
                      have hF193 := Fr_tr hF91 hF177 (Fr_sub (by decide)) (Fr_sub (by decide))
                      have hP194 := Pf_tr hP92 hQ178 (by omega)
                      have bat2_170 : (0 : Int) ≤ at2_170 ∧ at2_170 ≤ 3002 := e180 ▸ hW176.1 10
                      have bfk2_171 : (0 : Int) ≤ fk2_171 ∧ fk2_171 ≤ 6 := e181 ▸ hW176.1 16
                      have bop2_172 : (-2147483648 : Int) ≤ op2_172 ∧ op2_172 ≤ 2147483647 := e182 ▸ hW176.1 15
                      have bnd2_173 : (0 : Int) ≤ nd2_173 ∧ nd2_173 ≤ 6999 := e183 ▸ hW176.1 31
                      have ztk2_174 := tz_b tk2_174
                      have btk2_174 : (0 : Int) ≤ tk2_174 ∧ tk2_174 ≤ 5 := e184 ▸ hW176.1 11
                      refine .inr ⟨_, rfl, ?_⟩
                      rcases q192 with ⟨a195, a196, a197⟩ | ⟨a198, a199, a200, a201, a202⟩
                      · have _q : True := trivial
                        refine jx_ld (pc' := 172) (l' := jSto1 L71 3 (.int (i32 (r169)))) (st' := []) rfl rfl ?_
                        obtain ⟨L203, eL203⟩ : ∃ q, q = jSto1 L71 3 (.int (i32 (r169))) := ⟨_, rfl⟩
                        rw [← eL203]
                        have gL203_0 : jGet L203 0 = some (.ref 66) := eL203 ▸ jg_ne (by decide) gL71_0 rfl
                        have gL203_1 : jGet L203 1 = some (.int (i32 (pa))) := eL203 ▸ jg_ne (by decide) gL71_1 rfl
                        have gL203_2 : jGet L203 2 = some (.int (i32 (kp))) := eL203 ▸ jg_ne (by decide) gL71_2 rfl
                        have gL203_4 : jGet L203 4 = some (.int (i32 (G 12))) := eL203 ▸ jg_ne (by decide) gL71_4 rfl
                        have gL203_5 : jGet L203 5 = some (.int (i32 (r47))) := eL203 ▸ jg_ne (by decide) gL71_5 rfl
                        have gL203_3 : jGet L203 3 = some (.int (i32 (r169))) := eL203 ▸ jg_eq
                        refine jx_ld (pc' := 173) (l' := L203) (st' := [.ref 66]) rfl (jl_aloadn gL203_0) ?_
                        refine jx_ar (pc' := 175) (st' := [.int (i32 (7)), .ref 66]) rfl rfl rfl rfl ?_
                        refine jx_ld (pc' := 176) (l' := L203) (st' := [.int (i32 (r169)), .int (i32 (7)), .ref 66]) rfl (jl_iloadn gL203_3) ?_
                        refine jx_ld (pc' := 177) (l' := L203) (st' := [.int (i32 (pa)), .int (i32 (r169)), .int (i32 (7)), .ref 66]) rfl (jl_iloadn gL203_1) ?_
                        refine jx_ar (pc' := 178) (st' := [.int (i32 (0)), .int (i32 (pa)), .int (i32 (r169)), .int (i32 (7)), .ref 66]) rfl rfl rfl rfl ?_
                        refine jx_ar (pc' := 179) (st' := [.int (i32 (0)), .int (i32 (0)), .int (i32 (pa)), .int (i32 (r169)), .int (i32 (7)), .ref 66]) rfl rfl rfl rfl ?_
                        refine jx_vr (pc' := 182) (as := [.int (i32 (7)), .int (i32 (r169)), .int (i32 (pa)), .int (i32 (0)), .int (i32 (0))]) (st := []) rfl rfl rfl rfl ⟨rfl, rfl, Nat.le_of_ble_eq_true rfl⟩ rfl rfl (c_node_o (dd := d) (hd := by omega) (hW := hW176) (kind := 7) (a := r169) (b := pa) (c := 0) (e := 0) (nd := nd2_173) (e_nd := show G167 31 = nd2_173 from (e183)) (ec := ec2_175) (e_ec := show ecn A168 (G167 31) = ec2_175 from e185)  (h_kind := ⟨(by decide), (by decide)⟩) (h_a := ⟨(Int.le_trans (by decide : (-2147483648 : Int) ≤ -2147483648) b179.1), (Int.le_trans b179.2 (by decide : (2147483647 : Int) ≤ 2147483647))⟩) (h_b := ⟨(Int.le_trans (by decide : (-2147483648 : Int) ≤ -2147483648) h_pa.1), (Int.le_trans h_pa.2 (by decide : (2147483647 : Int) ≤ 2147483647))⟩) (h_c := ⟨(by decide), (by decide)⟩) (h_e := ⟨(by decide), (by decide)⟩)  (p_0 := by omega) (p_1 := by omega) (p_2 := by omega)) (fun o V' hq => ?_)
                        obtain ⟨G204, A205, nd2_206, ec2_207, rfl, rfl, hW208, hF209, hQ210, e211, e212, p213, p214, p215, -⟩ := hq
                        have hF217 := Fr_tr hF193 hF209 (Fr_sub (by decide)) (Fr_sub (by decide))
                        have hP218 := Pf_tr hP194 hQ210 (by omega)
                        have bnd2_206 : (0 : Int) ≤ nd2_206 ∧ nd2_206 ≤ 6999 := e211 ▸ hW208.1 31
                        refine .inr ⟨_, rfl, ?_⟩
                        refine jx_rt (v := some (.int (i32 (nd2_173)))) rfl rfl rfl rfl rfl rfl ?_
                        have z219 := tz_f (tk2_174)
                        exact ⟨_, _, _, at2_170, fk2_171, op2_172, nd2_206, tk2_174, ec2_207, rfl, rfl, hW208, hF217, hP218, by omega, ((hF209.1 10 rfl).trans (e180)), ((hF209.1 16 rfl).trans (e181)), ((hF209.1 15 rfl).trans (e182)), (e211), ((hF209.1 11 rfl).trans (e184)), e212, by omega, by omega, by omega, by omega, by omega, by omega, by first | exact Or.inl (⟨by omega, by omega, by omega⟩)⟩
                      · have _q : True := trivial
                        refine jx_ld (pc' := 172) (l' := jSto1 L71 3 (.int (i32 (r169)))) (st' := []) rfl rfl ?_
                        obtain ⟨L220, eL220⟩ : ∃ q, q = jSto1 L71 3 (.int (i32 (r169))) := ⟨_, rfl⟩
                        rw [← eL220]
                        have gL220_0 : jGet L220 0 = some (.ref 66) := eL220 ▸ jg_ne (by decide) gL71_0 rfl
                        have gL220_1 : jGet L220 1 = some (.int (i32 (pa))) := eL220 ▸ jg_ne (by decide) gL71_1 rfl
                        have gL220_2 : jGet L220 2 = some (.int (i32 (kp))) := eL220 ▸ jg_ne (by decide) gL71_2 rfl
                        have gL220_4 : jGet L220 4 = some (.int (i32 (G 12))) := eL220 ▸ jg_ne (by decide) gL71_4 rfl
                        have gL220_5 : jGet L220 5 = some (.int (i32 (r47))) := eL220 ▸ jg_ne (by decide) gL71_5 rfl
                        have gL220_3 : jGet L220 3 = some (.int (i32 (r169))) := eL220 ▸ jg_eq
                        refine jx_ld (pc' := 173) (l' := L220) (st' := [.ref 66]) rfl (jl_aloadn gL220_0) ?_
                        refine jx_ar (pc' := 175) (st' := [.int (i32 (7)), .ref 66]) rfl rfl rfl rfl ?_
                        refine jx_ld (pc' := 176) (l' := L220) (st' := [.int (i32 (r169)), .int (i32 (7)), .ref 66]) rfl (jl_iloadn gL220_3) ?_
                        refine jx_ld (pc' := 177) (l' := L220) (st' := [.int (i32 (pa)), .int (i32 (r169)), .int (i32 (7)), .ref 66]) rfl (jl_iloadn gL220_1) ?_
                        refine jx_ar (pc' := 178) (st' := [.int (i32 (0)), .int (i32 (pa)), .int (i32 (r169)), .int (i32 (7)), .ref 66]) rfl rfl rfl rfl ?_
                        refine jx_ar (pc' := 179) (st' := [.int (i32 (0)), .int (i32 (0)), .int (i32 (pa)), .int (i32 (r169)), .int (i32 (7)), .ref 66]) rfl rfl rfl rfl ?_
                        refine jx_vr (pc' := 182) (as := [.int (i32 (7)), .int (i32 (r169)), .int (i32 (pa)), .int (i32 (0)), .int (i32 (0))]) (st := []) rfl rfl rfl rfl ⟨rfl, rfl, Nat.le_of_ble_eq_true rfl⟩ rfl rfl (c_node_o (dd := d) (hd := by omega) (hW := hW176) (kind := 7) (a := r169) (b := pa) (c := 0) (e := 0) (nd := nd2_173) (e_nd := show G167 31 = nd2_173 from (e183)) (ec := ec2_175) (e_ec := show ecn A168 (G167 31) = ec2_175 from e185)  (h_kind := ⟨(by decide), (by decide)⟩) (h_a := ⟨(Int.le_trans (by decide : (-2147483648 : Int) ≤ -2147483648) b179.1), (Int.le_trans b179.2 (by decide : (2147483647 : Int) ≤ 2147483647))⟩) (h_b := ⟨(Int.le_trans (by decide : (-2147483648 : Int) ≤ -2147483648) h_pa.1), (Int.le_trans h_pa.2 (by decide : (2147483647 : Int) ≤ 2147483647))⟩) (h_c := ⟨(by decide), (by decide)⟩) (h_e := ⟨(by decide), (by decide)⟩)  (p_0 := by omega) (p_1 := by omega) (p_2 := by omega)) (fun o V' hq => ?_)
                        obtain ⟨G221, A222, nd2_223, ec2_224, rfl, rfl, hW225, hF226, hQ227, e228, e229, p230, p231, p232, -⟩ := hq
                        have hF234 := Fr_tr hF193 hF226 (Fr_sub (by decide)) (Fr_sub (by decide))
                        have hP235 := Pf_tr hP194 hQ227 (by omega)
                        have sf236 : wR A222 Vs sb (20) (1) (r169) (nd) (nd2_173) := wR_ag (by omega) (Sg_fr hF226 (by decide)) (Ag_pf hQ227 (by omega)) a201
                        have bnd2_223 : (0 : Int) ≤ nd2_223 ∧ nd2_223 ≤ 6999 := e228 ▸ hW225.1 31
                        refine .inr ⟨_, rfl, ?_⟩
                        refine jx_rt (v := some (.int (i32 (nd2_173)))) rfl rfl rfl rfl rfl rfl ?_
                        have z237 := tz_f (tk2_174)
                        exact ⟨_, _, _, at2_170, fk2_171, op2_172, nd2_223, tk2_174, ec2_224, rfl, rfl, hW225, hF234, hP235, by omega, ((hF226.1 10 rfl).trans (e180)), ((hF226.1 16 rfl).trans (e181)), ((hF226.1 15 rfl).trans (e182)), (e228), ((hF226.1 11 rfl).trans (e184)), e229, by omega, by omega, by omega, by omega, by omega, by omega, by first | exact Or.inr ((⟨by omega, by omega, by omega, by omega, by omega, (wA_mk p232 (by omega) (by omega) (by omega) (by omega) (.inr (.inr (.inl ⟨((show A222 7 (pa).toNat = kp from (congrFun ((hF226.2 7 rfl).trans ((hF177.2 7 rfl).trans ((hF84.2 7 rfl).trans (hF50.2 7 rfl)))) _).trans (e_kp)).trans (by omega : kp = 8)), (wR_mono (by omega) (by omega) (by omega) sf236)⟩)))), (NX_nd p232), by omega, by omega⟩))⟩
                  · have _q := h94
                    refine jx_ld (pc' := 139) (l' := L71) (st' := [.ref 66]) rfl (jl_aloadn gL71_0) ?_
                    refine jx_ar (pc' := 140) (st' := [.int (i32 (2)), .ref 66]) rfl rfl rfl rfl ?_
                    refine jx_ld (pc' := 142) (l' := L71) (st' := [.int (i32 (r47)), .int (i32 (2)), .ref 66]) rfl (jl_iload gL71_5) ?_
                    refine jx_ar (pc' := 143) (st' := [.int (i32 (0)), .int (i32 (r47)), .int (i32 (2)), .ref 66]) rfl rfl rfl rfl ?_
                    refine jx_ar (pc' := 144) (st' := [.int (i32 (0)), .int (i32 (0)), .int (i32 (r47)), .int (i32 (2)), .ref 66]) rfl rfl rfl rfl ?_
                    refine jx_ar (pc' := 145) (st' := [.int (i32 (0)), .int (i32 (0)), .int (i32 (0)), .int (i32 (r47)), .int (i32 (2)), .ref 66]) rfl rfl rfl rfl ?_
                    refine jx_vr (pc' := 148) (as := [.int (i32 (2)), .int (i32 (r47)), .int (i32 (0)), .int (i32 (0)), .int (i32 (0))]) (st := []) rfl rfl rfl rfl ⟨rfl, rfl, Nat.le_of_ble_eq_true rfl⟩ rfl rfl (c_node_o (dd := d) (hd := by omega) (hW := hW83) (kind := 2) (a := r47) (b := 0) (c := 0) (e := 0) (nd := nd) (e_nd := show G79 31 = nd from ((hF84.1 31 rfl).trans ((hF50.1 31 rfl).trans (e_nd)))) (ec := ec) (e_ec := show ecn A80 (G79 31) = ec from ec93)  (h_kind := ⟨(by decide), (by decide)⟩) (h_a := ⟨(Int.le_trans (by decide : (-2147483648 : Int) ≤ -2147483648) b51.1), (Int.le_trans b51.2 (by decide : (2147483647 : Int) ≤ 2147483647))⟩) (h_b := ⟨(by decide), (by decide)⟩) (h_c := ⟨(by decide), (by decide)⟩) (h_e := ⟨(by decide), (by decide)⟩)  (p_0 := by omega) (p_1 := by omega) (p_2 := by omega)) (fun o V' hq => ?_)
                    obtain ⟨G238, A239, nd2_240, ec2_241, rfl, rfl, hW242, hF243, hQ244, e245, e246, p247, p248, p249, -⟩ := hq
                    have hF251 := Fr_tr hF91 hF243 (Fr_sub (by decide)) (Fr_sub (by decide))
                    have hP252 := Pf_tr hP92 hQ244 (by omega)
                    have bnd2_240 : (0 : Int) ≤ nd2_240 ∧ nd2_240 ≤ 6999 := e245 ▸ hW242.1 31
                    refine .inr ⟨_, rfl, ?_⟩
                    refine jx_ld (pc' := 149) (l' := jSto1 L71 3 (.int (i32 (nd)))) (st' := []) rfl rfl ?_
                    obtain ⟨L253, eL253⟩ : ∃ q, q = jSto1 L71 3 (.int (i32 (nd))) := ⟨_, rfl⟩
                    rw [← eL253]
                    have gL253_0 : jGet L253 0 = some (.ref 66) := eL253 ▸ jg_ne (by decide) gL71_0 rfl
                    have gL253_1 : jGet L253 1 = some (.int (i32 (pa))) := eL253 ▸ jg_ne (by decide) gL71_1 rfl
                    have gL253_2 : jGet L253 2 = some (.int (i32 (kp))) := eL253 ▸ jg_ne (by decide) gL71_2 rfl
                    have gL253_4 : jGet L253 4 = some (.int (i32 (G 12))) := eL253 ▸ jg_ne (by decide) gL71_4 rfl
                    have gL253_5 : jGet L253 5 = some (.int (i32 (r47))) := eL253 ▸ jg_ne (by decide) gL71_5 rfl
                    have gL253_3 : jGet L253 3 = some (.int (i32 (nd))) := eL253 ▸ jg_eq
                    refine jx_go (tg := 172) rfl rfl ?_
                    refine jx_ld (pc' := 173) (l' := L253) (st' := [.ref 66]) rfl (jl_aloadn gL253_0) ?_
                    refine jx_ar (pc' := 175) (st' := [.int (i32 (7)), .ref 66]) rfl rfl rfl rfl ?_
                    refine jx_ld (pc' := 176) (l' := L253) (st' := [.int (i32 (nd)), .int (i32 (7)), .ref 66]) rfl (jl_iloadn gL253_3) ?_
                    refine jx_ld (pc' := 177) (l' := L253) (st' := [.int (i32 (pa)), .int (i32 (nd)), .int (i32 (7)), .ref 66]) rfl (jl_iloadn gL253_1) ?_
                    refine jx_ar (pc' := 178) (st' := [.int (i32 (0)), .int (i32 (pa)), .int (i32 (nd)), .int (i32 (7)), .ref 66]) rfl rfl rfl rfl ?_
                    refine jx_ar (pc' := 179) (st' := [.int (i32 (0)), .int (i32 (0)), .int (i32 (pa)), .int (i32 (nd)), .int (i32 (7)), .ref 66]) rfl rfl rfl rfl ?_
                    refine jx_vr (pc' := 182) (as := [.int (i32 (7)), .int (i32 (nd)), .int (i32 (pa)), .int (i32 (0)), .int (i32 (0))]) (st := []) rfl rfl rfl rfl ⟨rfl, rfl, Nat.le_of_ble_eq_true rfl⟩ rfl rfl (c_node_o (dd := d) (hd := by omega) (hW := hW242) (kind := 7) (a := nd) (b := pa) (c := 0) (e := 0) (nd := nd2_240) (e_nd := show G238 31 = nd2_240 from (e245)) (ec := ec2_241) (e_ec := show ecn A239 (G238 31) = ec2_241 from e246)  (h_kind := ⟨(by decide), (by decide)⟩) (h_a := ⟨(Int.le_trans (by decide : (-2147483648 : Int) ≤ 0) b_nd.1), (Int.le_trans b_nd.2 (by decide : (6999 : Int) ≤ 2147483647))⟩) (h_b := ⟨(Int.le_trans (by decide : (-2147483648 : Int) ≤ -2147483648) h_pa.1), (Int.le_trans h_pa.2 (by decide : (2147483647 : Int) ≤ 2147483647))⟩) (h_c := ⟨(by decide), (by decide)⟩) (h_e := ⟨(by decide), (by decide)⟩)  (p_0 := by omega) (p_1 := by omega) (p_2 := by omega)) (fun o V' hq => ?_)
                    obtain ⟨G254, A255, nd2_256, ec2_257, rfl, rfl, hW258, hF259, hQ260, e261, e262, p263, p264, p265, -⟩ := hq
                    have hF267 := Fr_tr hF251 hF259 (Fr_sub (by decide)) (Fr_sub (by decide))
                    have hP268 := Pf_tr hP252 hQ260 (by omega)
                    have sf269 : ND A255 (nd) (2) (r47) (0) (0) (0) (0) (0) := ND_ag (by omega) (Ag_pf hQ260 (by omega)) p249
                    have bnd2_256 : (0 : Int) ≤ nd2_256 ∧ nd2_256 ≤ 6999 := e261 ▸ hW258.1 31
                    refine .inr ⟨_, rfl, ?_⟩
                    refine jx_rt (v := some (.int (i32 (nd2_240)))) rfl rfl rfl rfl rfl rfl ?_
                    have z270 := tz_f (tk2_82)
                    exact ⟨_, _, _, at2_81, fk2_48, op0, nd2_256, tk2_82, ec2_257, rfl, rfl, hW258, hF267, hP268, by omega, ((hF259.1 10 rfl).trans ((hF243.1 10 rfl).trans (e85))), ((hF259.1 16 rfl).trans ((hF243.1 16 rfl).trans ((hF84.1 16 rfl).trans (e52)))), ((hF259.1 15 rfl).trans ((hF243.1 15 rfl).trans ((hF84.1 15 rfl).trans ((hF50.1 15 rfl).trans (e_op0))))), (e261), ((hF259.1 11 rfl).trans ((hF243.1 11 rfl).trans (e86))), e262, by omega, by omega, by omega, by omega, by omega, by omega, by first | exact Or.inr ((⟨by omega, by omega, by omega, by omega, by omega, (wA_mk p265 (by omega) (by omega) (by omega) (by omega) (.inr (.inr (.inr ⟨((show A255 7 (pa).toNat = kp from (congrFun ((hF259.2 7 rfl).trans ((hF243.2 7 rfl).trans ((hF84.2 7 rfl).trans (hF50.2 7 rfl)))) _).trans (e_kp)).trans (by omega : kp = 7)), wW_mk sf269 (by omega) (by omega) a62 (kq (P := kArr) (show A255 7 (r47).toNat = A 7 (r47).toNat from (congrFun ((hF259.2 7 rfl).trans ((hF243.2 7 rfl).trans ((hF84.2 7 rfl).trans (hF50.2 7 rfl)))) _)) (by unfold kArr; omega)) ((show A255 8 (r47).toNat = A 8 (r47).toNat from (congrFun ((hF259.2 8 rfl).trans ((hF243.2 8 rfl).trans ((hF84.2 8 rfl).trans (hF50.2 8 rfl)))) _)).trans ((by omega : A 8 (r47).toNat = zp).trans (show A255 8 (pa).toNat = zp from (congrFun ((hF259.2 8 rfl).trans ((hF243.2 8 rfl).trans ((hF84.2 8 rfl).trans (hF50.2 8 rfl)))) _).trans (e_zp)).symm))⟩)))), (NX_nd p265), by omega, by omega⟩))⟩
                · have _q := h78
                  refine jx_ld (pc' := 91) (l' := L71) (st' := [.ref 66]) rfl (jl_aloadn gL71_0) ?_
                  refine jr_get (pc' := 94) (i := 21) (v := .ref 74) rfl rfl (by decide) rfl rfl ?_
                  refine jx_ld (pc' := 96) (l' := L71) (st' := [.int (i32 (r47)), .ref 74]) rfl (jl_iload gL71_5) ?_
                  have b271 : (0 : Int) ≤ A 7 (r47).toNat ∧ A 7 (r47).toNat ≤ 14 := hW.2 7 _
                  refine jr_ldv (pc' := 97) (i := 7) (m := 260) (z := r47) (y := A 7 (r47).toNat) rfl (by decide) rfl (by decide) (by omega) (by omega) rfl (show A46 7 (r47).toNat = A 7 (r47).toNat from (congrFun (hF50.2 7 rfl) _)) ?_
                  refine jx_st (pc' := 100) (as := [.int (i32 (A 7 (r47).toNat))]) (st := []) rfl rfl ⟨rfl, Nat.le_of_ble_eq_true rfl⟩ rfl rfl rfl (c_isArray (dd := d) (hd := by omega) (k := A 7 (r47).toNat)   (h_k := ⟨(Int.le_trans (by decide : (-2147483648 : Int) ≤ 0) b271.1), (Int.le_trans b271.2 (by decide : (14 : Int) ≤ 2147483647))⟩)  ) (fun o V' hq => ?_)
                  obtain ⟨r272, rfl, rfl, b273, q274⟩ := hq
                  refine .inr ⟨_, rfl, ?_⟩
                  rcases q274 with ⟨rfl, a275⟩ | rfl
                  · have _q : True := trivial
                    refine jx_if_eq (pc' := 103) (tg := 119) rfl rfl rfl (by decide) (by decide) (fun h276 => ?_) (fun h276 => ?_)
                    · have _q := h276
                      exact absurd h276 (by omega)
                    · have _q := h276
                      refine jx_ld (pc' := 104) (l' := L71) (st' := [.ref 66]) rfl (jl_aloadn gL71_0) ?_
                      refine jr_get (pc' := 107) (i := 22) (v := .ref 75) rfl rfl (by decide) rfl rfl ?_
                      refine jx_ld (pc' := 109) (l' := L71) (st' := [.int (i32 (r47)), .ref 75]) rfl (jl_iload gL71_5) ?_
                      have b277 : (-2147483648 : Int) ≤ A 8 (r47).toNat ∧ A 8 (r47).toNat ≤ 2147483647 := hW.2 8 _
                      refine jr_ldv (pc' := 110) (i := 8) (m := 260) (z := r47) (y := A 8 (r47).toNat) rfl (by decide) rfl (by decide) (by omega) (by omega) rfl (show A46 8 (r47).toNat = A 8 (r47).toNat from (congrFun (hF50.2 8 rfl) _)) ?_
                      refine jx_ld (pc' := 111) (l' := L71) (st' := [.ref 66, .int (i32 (A 8 (r47).toNat))]) rfl (jl_aloadn gL71_0) ?_
                      refine jr_get (pc' := 114) (i := 22) (v := .ref 75) rfl rfl (by decide) rfl rfl ?_
                      refine jx_ld (pc' := 115) (l' := L71) (st' := [.int (i32 (pa)), .ref 75, .int (i32 (A 8 (r47).toNat))]) rfl (jl_iloadn gL71_1) ?_
                      refine jr_ldv (pc' := 116) (i := 8) (m := 260) (z := pa) (y := zp) rfl (by decide) rfl (by decide) (by omega) (by omega) rfl (show A46 8 (pa).toNat = zp from (congrFun (hF50.2 8 rfl) _).trans (e_zp)) ?_
                      refine jx_icmp_eq (pc' := 119) (tg := 128) rfl rfl rfl (Int.le_trans (by decide : (-2147483648 : Int) ≤ -2147483648) b277.1) (Int.le_trans b277.2 (by decide : (2147483647 : Int) ≤ 2147483647)) (Int.le_trans (by decide : (-2147483648 : Int) ≤ -2147483648) b_zp.1) (Int.le_trans b_zp.2 (by decide : (2147483647 : Int) ≤ 2147483647)) (fun h278 => ?_) (fun h278 => ?_)
                      · have _q := h278
                        refine jx_ld (pc' := 129) (l' := L71) (st' := [.ref 66]) rfl (jl_aloadn gL71_0) ?_
                        refine jx_vr (pc' := 132) (as := []) (st := []) rfl rfl rfl rfl ⟨rfl, rfl, Nat.le_of_ble_eq_true rfl⟩ rfl rfl (c_next (dd := d) (hd := by omega) (hW := hW49)  (ln := ln) (e_ln := show G45 9 = ln from ((hF50.1 9 rfl).trans (e_ln))) (le := le) (e_le := show A46 4 (ln).toNat = le from (congrFun (hF50.2 4 rfl) _).trans (e_le)) (at0 := at0) (e_at0 := show G45 10 = at0 from ((hF50.1 10 rfl).trans (e_at0)))    (p_0 := by omega)) (fun o V' hq => ?_)
                        obtain ⟨G279, A280, at2_281, tk2_282, rfl, rfl, hW283, hF284, e285, e286, p287, p288, p289, -⟩ := hq
                        have hF291 := Fr_tr hF54 hF284 (Fr_sub (by decide)) (Fr_sub (by decide))
                        have hP292 := Pf_f hP55 hF284 (by decide)
                        have ec293 : ecn A280 (G279 31) = ec := (ecn_f (hF284.2 15 rfl) (hF284.1 31 rfl)).trans ec56
                        have bat2_281 : (0 : Int) ≤ at2_281 ∧ at2_281 ≤ 3002 := e285 ▸ hW283.1 10
                        have ztk2_282 := tz_b tk2_282
                        have btk2_282 : (0 : Int) ≤ tk2_282 ∧ tk2_282 ≤ 5 := e286 ▸ hW283.1 11
                        refine .inl ⟨rfl, ?_⟩
                        refine jx_ld (pc' := 133) (l' := L71) (st' := [.int (i32 (kp))]) rfl (jl_iloadn gL71_2) ?_
                        refine jx_ar (pc' := 135) (st' := [.int (i32 (7)), .int (i32 (kp))]) rfl rfl rfl rfl ?_
                        refine jx_icmp_ne (pc' := 138) (tg := 152) rfl rfl rfl (Int.le_trans (by decide : (-2147483648 : Int) ≤ 0) b_kp.1) (Int.le_trans b_kp.2 (by decide : (14 : Int) ≤ 2147483647)) (by decide) (by decide) (fun h294 => ?_) (fun h294 => ?_)
                        · have _q := h294
                          refine jx_ld (pc' := 153) (l' := L71) (st' := [.ref 66]) rfl (jl_aloadn gL71_0) ?_
                          refine jx_ld (pc' := 155) (l' := L71) (st' := [.int (i32 (r47)), .ref 66]) rfl (jl_iload gL71_5) ?_
                          refine jx_ld (pc' := 157) (l' := L71) (st' := [.int (i32 (G 12)), .int (i32 (r47)), .ref 66]) rfl (jl_iload gL71_4) ?_
                          refine jx_ld (pc' := 158) (l' := L71) (st' := [.int (i32 (kp)), .int (i32 (G 12)), .int (i32 (r47)), .ref 66]) rfl (jl_iloadn gL71_2) ?_
                          refine jx_ar (pc' := 160) (st' := [.int (i32 (8)), .int (i32 (kp)), .int (i32 (G 12)), .int (i32 (r47)), .ref 66]) rfl rfl rfl rfl ?_
                          refine jx_icmp_ne (pc' := 163) (tg := 167) rfl rfl rfl (Int.le_trans (by decide : (-2147483648 : Int) ≤ 0) b_kp.1) (Int.le_trans b_kp.2 (by decide : (14 : Int) ≤ 2147483647)) (by decide) (by decide) (fun h295 => ?_) (fun h295 => ?_)
                          · have _q := h295
                            refine jx_ar (pc' := 168) (st' := [.int (i32 (0)), .int (i32 (G 12)), .int (i32 (r47)), .ref 66]) rfl rfl rfl rfl ?_
                            refine jx_vr (pc' := 171) (as := [.int (i32 (r47)), .int (i32 (G 12)), .int (i32 (0))]) (st := []) rfl rfl rfl rfl ⟨rfl, rfl, Nat.le_of_ble_eq_true rfl⟩ rfl rfl (c_readBehind_w (dd := d) (hd := by omega) (hW := hW283) (s := r47) (place := G 12) (ch := 0) (ln := ln) (e_ln := show G279 9 = ln from ((hF284.1 9 rfl).trans ((hF50.1 9 rfl).trans (e_ln)))) (le := le) (e_le := show A280 4 (ln).toNat = le from (congrFun ((hF284.2 4 rfl).trans (hF50.2 4 rfl)) _).trans (e_le)) (at0 := at2_281) (e_at0 := show G279 10 = at2_281 from (e285)) (fk := fk2_48) (e_fk := show G279 16 = fk2_48 from ((hF284.1 16 rfl).trans (e52))) (op0 := op0) (e_op0 := show G279 15 = op0 from ((hF284.1 15 rfl).trans ((hF50.1 15 rfl).trans (e_op0)))) (nd := nd) (e_nd := show G279 31 = nd from ((hF284.1 31 rfl).trans ((hF50.1 31 rfl).trans (e_nd)))) (tk0 := tk2_282) (e_tk0 := show G279 11 = tk2_282 from (e286)) (ec := ec) (e_ec := show ecn A280 (G279 31) = ec from ec293) (i_SV := (SV_ext (((hF284.1 29 rfl).trans (hF50.1 29 rfl))) (((hF284.2 14 rfl).trans (hF50.2 14 rfl))) i_SV)) (h_s := ⟨(Int.le_trans (by decide : (-2147483648 : Int) ≤ -2147483648) b51.1), (Int.le_trans b51.2 (by decide : (2147483647 : Int) ≤ 2147483647))⟩) (h_place := ⟨(Int.le_trans (by decide : (-2147483648 : Int) ≤ -3000) b43.1), (Int.le_trans b43.2 (by decide : (3002 : Int) ≤ 2147483647))⟩) (h_ch := ⟨(by decide), (by decide)⟩)  (p_0 := by omega) (p_1 := by omega) (p_2 := by omega) (p_3 := by omega) (p_4 := by omega) (p_5 := by omega) (p_6 := by omega) (p_7 := by omega) (p_8 := by omega) (p_9 := a62)) (fun o V' hq => ?_)
                            obtain ⟨G296, A297, r298, at2_299, fk2_300, op2_301, nd2_302, tk2_303, ec2_304, rfl, rfl, hW305, hF306, hQ307, b308, e309, e310, e311, e312, e313, e314, p315, p316, p317, p318, p319, p320, q321⟩ := hq
                            have hF322 := Fr_tr hF291 hF306 (Fr_sub (by decide)) (Fr_sub (by decide))
                            have hP323 := Pf_tr hP292 hQ307 (by omega)
                            have bat2_299 : (0 : Int) ≤ at2_299 ∧ at2_299 ≤ 3002 := e309 ▸ hW305.1 10
                            have bfk2_300 : (0 : Int) ≤ fk2_300 ∧ fk2_300 ≤ 6 := e310 ▸ hW305.1 16
                            have bop2_301 : (-2147483648 : Int) ≤ op2_301 ∧ op2_301 ≤ 2147483647 := e311 ▸ hW305.1 15
                            have bnd2_302 : (0 : Int) ≤ nd2_302 ∧ nd2_302 ≤ 6999 := e312 ▸ hW305.1 31
                            have ztk2_303 := tz_b tk2_303
                            have btk2_303 : (0 : Int) ≤ tk2_303 ∧ tk2_303 ≤ 5 := e313 ▸ hW305.1 11
                            refine .inr ⟨_, rfl, ?_⟩
                            rcases q321 with ⟨a324, a325, a326⟩ | ⟨a327, a328, a329, a330, a331⟩
                            · have _q : True := trivial
                              refine jx_ld (pc' := 172) (l' := jSto1 L71 3 (.int (i32 (r298)))) (st' := []) rfl rfl ?_
                              obtain ⟨L332, eL332⟩ : ∃ q, q = jSto1 L71 3 (.int (i32 (r298))) := ⟨_, rfl⟩
                              rw [← eL332]
                              have gL332_0 : jGet L332 0 = some (.ref 66) := eL332 ▸ jg_ne (by decide) gL71_0 rfl
                              have gL332_1 : jGet L332 1 = some (.int (i32 (pa))) := eL332 ▸ jg_ne (by decide) gL71_1 rfl
                              have gL332_2 : jGet L332 2 = some (.int (i32 (kp))) := eL332 ▸ jg_ne (by decide) gL71_2 rfl
                              have gL332_4 : jGet L332 4 = some (.int (i32 (G 12))) := eL332 ▸ jg_ne (by decide) gL71_4 rfl
                              have gL332_5 : jGet L332 5 = some (.int (i32 (r47))) := eL332 ▸ jg_ne (by decide) gL71_5 rfl
                              have gL332_3 : jGet L332 3 = some (.int (i32 (r298))) := eL332 ▸ jg_eq
                              refine jx_ld (pc' := 173) (l' := L332) (st' := [.ref 66]) rfl (jl_aloadn gL332_0) ?_
                              refine jx_ar (pc' := 175) (st' := [.int (i32 (7)), .ref 66]) rfl rfl rfl rfl ?_
                              refine jx_ld (pc' := 176) (l' := L332) (st' := [.int (i32 (r298)), .int (i32 (7)), .ref 66]) rfl (jl_iloadn gL332_3) ?_
                              refine jx_ld (pc' := 177) (l' := L332) (st' := [.int (i32 (pa)), .int (i32 (r298)), .int (i32 (7)), .ref 66]) rfl (jl_iloadn gL332_1) ?_
                              refine jx_ar (pc' := 178) (st' := [.int (i32 (0)), .int (i32 (pa)), .int (i32 (r298)), .int (i32 (7)), .ref 66]) rfl rfl rfl rfl ?_
                              refine jx_ar (pc' := 179) (st' := [.int (i32 (0)), .int (i32 (0)), .int (i32 (pa)), .int (i32 (r298)), .int (i32 (7)), .ref 66]) rfl rfl rfl rfl ?_
                              refine jx_vr (pc' := 182) (as := [.int (i32 (7)), .int (i32 (r298)), .int (i32 (pa)), .int (i32 (0)), .int (i32 (0))]) (st := []) rfl rfl rfl rfl ⟨rfl, rfl, Nat.le_of_ble_eq_true rfl⟩ rfl rfl (c_node_o (dd := d) (hd := by omega) (hW := hW305) (kind := 7) (a := r298) (b := pa) (c := 0) (e := 0) (nd := nd2_302) (e_nd := show G296 31 = nd2_302 from (e312)) (ec := ec2_304) (e_ec := show ecn A297 (G296 31) = ec2_304 from e314)  (h_kind := ⟨(by decide), (by decide)⟩) (h_a := ⟨(Int.le_trans (by decide : (-2147483648 : Int) ≤ -2147483648) b308.1), (Int.le_trans b308.2 (by decide : (2147483647 : Int) ≤ 2147483647))⟩) (h_b := ⟨(Int.le_trans (by decide : (-2147483648 : Int) ≤ -2147483648) h_pa.1), (Int.le_trans h_pa.2 (by decide : (2147483647 : Int) ≤ 2147483647))⟩) (h_c := ⟨(by decide), (by decide)⟩) (h_e := ⟨(by decide), (by decide)⟩)  (p_0 := by omega) (p_1 := by omega) (p_2 := by omega)) (fun o V' hq => ?_)
                              obtain ⟨G333, A334, nd2_335, ec2_336, rfl, rfl, hW337, hF338, hQ339, e340, e341, p342, p343, p344, -⟩ := hq
                              have hF346 := Fr_tr hF322 hF338 (Fr_sub (by decide)) (Fr_sub (by decide))
                              have hP347 := Pf_tr hP323 hQ339 (by omega)
                              have bnd2_335 : (0 : Int) ≤ nd2_335 ∧ nd2_335 ≤ 6999 := e340 ▸ hW337.1 31
                              refine .inr ⟨_, rfl, ?_⟩
                              refine jx_rt (v := some (.int (i32 (nd2_302)))) rfl rfl rfl rfl rfl rfl ?_
                              have z348 := tz_f (tk2_303)
                              exact ⟨_, _, _, at2_299, fk2_300, op2_301, nd2_335, tk2_303, ec2_336, rfl, rfl, hW337, hF346, hP347, by omega, ((hF338.1 10 rfl).trans (e309)), ((hF338.1 16 rfl).trans (e310)), ((hF338.1 15 rfl).trans (e311)), (e340), ((hF338.1 11 rfl).trans (e313)), e341, by omega, by omega, by omega, by omega, by omega, by omega, by first | exact Or.inl (⟨by omega, by omega, by omega⟩)⟩
                            · have _q : True := trivial
                              refine jx_ld (pc' := 172) (l' := jSto1 L71 3 (.int (i32 (r298)))) (st' := []) rfl rfl ?_
                              obtain ⟨L349, eL349⟩ : ∃ q, q = jSto1 L71 3 (.int (i32 (r298))) := ⟨_, rfl⟩
                              rw [← eL349]
                              have gL349_0 : jGet L349 0 = some (.ref 66) := eL349 ▸ jg_ne (by decide) gL71_0 rfl
                              have gL349_1 : jGet L349 1 = some (.int (i32 (pa))) := eL349 ▸ jg_ne (by decide) gL71_1 rfl
                              have gL349_2 : jGet L349 2 = some (.int (i32 (kp))) := eL349 ▸ jg_ne (by decide) gL71_2 rfl
                              have gL349_4 : jGet L349 4 = some (.int (i32 (G 12))) := eL349 ▸ jg_ne (by decide) gL71_4 rfl
                              have gL349_5 : jGet L349 5 = some (.int (i32 (r47))) := eL349 ▸ jg_ne (by decide) gL71_5 rfl
                              have gL349_3 : jGet L349 3 = some (.int (i32 (r298))) := eL349 ▸ jg_eq
                              refine jx_ld (pc' := 173) (l' := L349) (st' := [.ref 66]) rfl (jl_aloadn gL349_0) ?_
                              refine jx_ar (pc' := 175) (st' := [.int (i32 (7)), .ref 66]) rfl rfl rfl rfl ?_
                              refine jx_ld (pc' := 176) (l' := L349) (st' := [.int (i32 (r298)), .int (i32 (7)), .ref 66]) rfl (jl_iloadn gL349_3) ?_
                              refine jx_ld (pc' := 177) (l' := L349) (st' := [.int (i32 (pa)), .int (i32 (r298)), .int (i32 (7)), .ref 66]) rfl (jl_iloadn gL349_1) ?_
                              refine jx_ar (pc' := 178) (st' := [.int (i32 (0)), .int (i32 (pa)), .int (i32 (r298)), .int (i32 (7)), .ref 66]) rfl rfl rfl rfl ?_
                              refine jx_ar (pc' := 179) (st' := [.int (i32 (0)), .int (i32 (0)), .int (i32 (pa)), .int (i32 (r298)), .int (i32 (7)), .ref 66]) rfl rfl rfl rfl ?_
                              refine jx_vr (pc' := 182) (as := [.int (i32 (7)), .int (i32 (r298)), .int (i32 (pa)), .int (i32 (0)), .int (i32 (0))]) (st := []) rfl rfl rfl rfl ⟨rfl, rfl, Nat.le_of_ble_eq_true rfl⟩ rfl rfl (c_node_o (dd := d) (hd := by omega) (hW := hW305) (kind := 7) (a := r298) (b := pa) (c := 0) (e := 0) (nd := nd2_302) (e_nd := show G296 31 = nd2_302 from (e312)) (ec := ec2_304) (e_ec := show ecn A297 (G296 31) = ec2_304 from e314)  (h_kind := ⟨(by decide), (by decide)⟩) (h_a := ⟨(Int.le_trans (by decide : (-2147483648 : Int) ≤ -2147483648) b308.1), (Int.le_trans b308.2 (by decide : (2147483647 : Int) ≤ 2147483647))⟩) (h_b := ⟨(Int.le_trans (by decide : (-2147483648 : Int) ≤ -2147483648) h_pa.1), (Int.le_trans h_pa.2 (by decide : (2147483647 : Int) ≤ 2147483647))⟩) (h_c := ⟨(by decide), (by decide)⟩) (h_e := ⟨(by decide), (by decide)⟩)  (p_0 := by omega) (p_1 := by omega) (p_2 := by omega)) (fun o V' hq => ?_)
                              obtain ⟨G350, A351, nd2_352, ec2_353, rfl, rfl, hW354, hF355, hQ356, e357, e358, p359, p360, p361, -⟩ := hq
                              have hF363 := Fr_tr hF322 hF355 (Fr_sub (by decide)) (Fr_sub (by decide))
                              have hP364 := Pf_tr hP323 hQ356 (by omega)
                              have sf365 : wR A351 Vs sb (20) (0) (r298) (nd) (nd2_302) := wR_ag (by omega) (Sg_fr hF355 (by decide)) (Ag_pf hQ356 (by omega)) a330
                              have bnd2_352 : (0 : Int) ≤ nd2_352 ∧ nd2_352 ≤ 6999 := e357 ▸ hW354.1 31
                              refine .inr ⟨_, rfl, ?_⟩
                              refine jx_rt (v := some (.int (i32 (nd2_302)))) rfl rfl rfl rfl rfl rfl ?_
                              have z366 := tz_f (tk2_303)
                              exact ⟨_, _, _, at2_299, fk2_300, op2_301, nd2_352, tk2_303, ec2_353, rfl, rfl, hW354, hF363, hP364, by omega, ((hF355.1 10 rfl).trans (e309)), ((hF355.1 16 rfl).trans (e310)), ((hF355.1 15 rfl).trans (e311)), (e357), ((hF355.1 11 rfl).trans (e313)), e358, by omega, by omega, by omega, by omega, by omega, by omega, by first | exact Or.inr ((⟨by omega, by omega, by omega, by omega, by omega, (wA_mk p361 (by omega) (by omega) (by omega) (by omega) (.inr (.inl ⟨((show A351 7 (pa).toNat = kp from (congrFun ((hF355.2 7 rfl).trans ((hF306.2 7 rfl).trans ((hF284.2 7 rfl).trans (hF50.2 7 rfl)))) _).trans (e_kp)).trans (by omega : kp = 6)), (wR_mono (by omega) (by omega) (by omega) sf365)⟩))), (NX_nd p361), by omega, by omega⟩))⟩
                          · have _q := h295
                            refine jx_ar (pc' := 164) (st' := [.int (i32 (1)), .int (i32 (G 12)), .int (i32 (r47)), .ref 66]) rfl rfl rfl rfl ?_
                            refine jx_go (tg := 168) rfl rfl ?_
                            refine jx_vr (pc' := 171) (as := [.int (i32 (r47)), .int (i32 (G 12)), .int (i32 (1))]) (st := []) rfl rfl rfl rfl ⟨rfl, rfl, Nat.le_of_ble_eq_true rfl⟩ rfl rfl (c_readBehind_w (dd := d) (hd := by omega) (hW := hW283) (s := r47) (place := G 12) (ch := 1) (ln := ln) (e_ln := show G279 9 = ln from ((hF284.1 9 rfl).trans ((hF50.1 9 rfl).trans (e_ln)))) (le := le) (e_le := show A280 4 (ln).toNat = le from (congrFun ((hF284.2 4 rfl).trans (hF50.2 4 rfl)) _).trans (e_le)) (at0 := at2_281) (e_at0 := show G279 10 = at2_281 from (e285)) (fk := fk2_48) (e_fk := show G279 16 = fk2_48 from ((hF284.1 16 rfl).trans (e52))) (op0 := op0) (e_op0 := show G279 15 = op0 from ((hF284.1 15 rfl).trans ((hF50.1 15 rfl).trans (e_op0)))) (nd := nd) (e_nd := show G279 31 = nd from ((hF284.1 31 rfl).trans ((hF50.1 31 rfl).trans (e_nd)))) (tk0 := tk2_282) (e_tk0 := show G279 11 = tk2_282 from (e286)) (ec := ec) (e_ec := show ecn A280 (G279 31) = ec from ec293) (i_SV := (SV_ext (((hF284.1 29 rfl).trans (hF50.1 29 rfl))) (((hF284.2 14 rfl).trans (hF50.2 14 rfl))) i_SV)) (h_s := ⟨(Int.le_trans (by decide : (-2147483648 : Int) ≤ -2147483648) b51.1), (Int.le_trans b51.2 (by decide : (2147483647 : Int) ≤ 2147483647))⟩) (h_place := ⟨(Int.le_trans (by decide : (-2147483648 : Int) ≤ -3000) b43.1), (Int.le_trans b43.2 (by decide : (3002 : Int) ≤ 2147483647))⟩) (h_ch := ⟨(by decide), (by decide)⟩)  (p_0 := by omega) (p_1 := by omega) (p_2 := by omega) (p_3 := by omega) (p_4 := by omega) (p_5 := by omega) (p_6 := by omega) (p_7 := by omega) (p_8 := by omega) (p_9 := a62)) (fun o V' hq => ?_)
                            obtain ⟨G367, A368, r369, at2_370, fk2_371, op2_372, nd2_373, tk2_374, ec2_375, rfl, rfl, hW376, hF377, hQ378, b379, e380, e381, e382, e383, e384, e385, p386, p387, p388, p389, p390, p391, q392⟩ := hq
                            have hF393 := Fr_tr hF291 hF377 (Fr_sub (by decide)) (Fr_sub (by decide))
                            have hP394 := Pf_tr hP292 hQ378 (by omega)
                            have bat2_370 : (0 : Int) ≤ at2_370 ∧ at2_370 ≤ 3002 := e380 ▸ hW376.1 10
                            have bfk2_371 : (0 : Int) ≤ fk2_371 ∧ fk2_371 ≤ 6 := e381 ▸ hW376.1 16
                            have bop2_372 : (-2147483648 : Int) ≤ op2_372 ∧ op2_372 ≤ 2147483647 := e382 ▸ hW376.1 15
                            have bnd2_373 : (0 : Int) ≤ nd2_373 ∧ nd2_373 ≤ 6999 := e383 ▸ hW376.1 31
                            have ztk2_374 := tz_b tk2_374
                            have btk2_374 : (0 : Int) ≤ tk2_374 ∧ tk2_374 ≤ 5 := e384 ▸ hW376.1 11
                            refine .inr ⟨_, rfl, ?_⟩
                            rcases q392 with ⟨a395, a396, a397⟩ | ⟨a398, a399, a400, a401, a402⟩
                            · have _q : True := trivial
                              refine jx_ld (pc' := 172) (l' := jSto1 L71 3 (.int (i32 (r369)))) (st' := []) rfl rfl ?_
                              obtain ⟨L403, eL403⟩ : ∃ q, q = jSto1 L71 3 (.int (i32 (r369))) := ⟨_, rfl⟩
                              rw [← eL403]
                              have gL403_0 : jGet L403 0 = some (.ref 66) := eL403 ▸ jg_ne (by decide) gL71_0 rfl
                              have gL403_1 : jGet L403 1 = some (.int (i32 (pa))) := eL403 ▸ jg_ne (by decide) gL71_1 rfl
                              have gL403_2 : jGet L403 2 = some (.int (i32 (kp))) := eL403 ▸ jg_ne (by decide) gL71_2 rfl
                              have gL403_4 : jGet L403 4 = some (.int (i32 (G 12))) := eL403 ▸ jg_ne (by decide) gL71_4 rfl
                              have gL403_5 : jGet L403 5 = some (.int (i32 (r47))) := eL403 ▸ jg_ne (by decide) gL71_5 rfl
                              have gL403_3 : jGet L403 3 = some (.int (i32 (r369))) := eL403 ▸ jg_eq
                              refine jx_ld (pc' := 173) (l' := L403) (st' := [.ref 66]) rfl (jl_aloadn gL403_0) ?_
                              refine jx_ar (pc' := 175) (st' := [.int (i32 (7)), .ref 66]) rfl rfl rfl rfl ?_
                              refine jx_ld (pc' := 176) (l' := L403) (st' := [.int (i32 (r369)), .int (i32 (7)), .ref 66]) rfl (jl_iloadn gL403_3) ?_
                              refine jx_ld (pc' := 177) (l' := L403) (st' := [.int (i32 (pa)), .int (i32 (r369)), .int (i32 (7)), .ref 66]) rfl (jl_iloadn gL403_1) ?_
                              refine jx_ar (pc' := 178) (st' := [.int (i32 (0)), .int (i32 (pa)), .int (i32 (r369)), .int (i32 (7)), .ref 66]) rfl rfl rfl rfl ?_
                              refine jx_ar (pc' := 179) (st' := [.int (i32 (0)), .int (i32 (0)), .int (i32 (pa)), .int (i32 (r369)), .int (i32 (7)), .ref 66]) rfl rfl rfl rfl ?_
                              refine jx_vr (pc' := 182) (as := [.int (i32 (7)), .int (i32 (r369)), .int (i32 (pa)), .int (i32 (0)), .int (i32 (0))]) (st := []) rfl rfl rfl rfl ⟨rfl, rfl, Nat.le_of_ble_eq_true rfl⟩ rfl rfl (c_node_o (dd := d) (hd := by omega) (hW := hW376) (kind := 7) (a := r369) (b := pa) (c := 0) (e := 0) (nd := nd2_373) (e_nd := show G367 31 = nd2_373 from (e383)) (ec := ec2_375) (e_ec := show ecn A368 (G367 31) = ec2_375 from e385)  (h_kind := ⟨(by decide), (by decide)⟩) (h_a := ⟨(Int.le_trans (by decide : (-2147483648 : Int) ≤ -2147483648) b379.1), (Int.le_trans b379.2 (by decide : (2147483647 : Int) ≤ 2147483647))⟩) (h_b := ⟨(Int.le_trans (by decide : (-2147483648 : Int) ≤ -2147483648) h_pa.1), (Int.le_trans h_pa.2 (by decide : (2147483647 : Int) ≤ 2147483647))⟩) (h_c := ⟨(by decide), (by decide)⟩) (h_e := ⟨(by decide), (by decide)⟩)  (p_0 := by omega) (p_1 := by omega) (p_2 := by omega)) (fun o V' hq => ?_)
                              obtain ⟨G404, A405, nd2_406, ec2_407, rfl, rfl, hW408, hF409, hQ410, e411, e412, p413, p414, p415, -⟩ := hq
                              have hF417 := Fr_tr hF393 hF409 (Fr_sub (by decide)) (Fr_sub (by decide))
                              have hP418 := Pf_tr hP394 hQ410 (by omega)
                              have bnd2_406 : (0 : Int) ≤ nd2_406 ∧ nd2_406 ≤ 6999 := e411 ▸ hW408.1 31
                              refine .inr ⟨_, rfl, ?_⟩
                              refine jx_rt (v := some (.int (i32 (nd2_373)))) rfl rfl rfl rfl rfl rfl ?_
                              have z419 := tz_f (tk2_374)
                              exact ⟨_, _, _, at2_370, fk2_371, op2_372, nd2_406, tk2_374, ec2_407, rfl, rfl, hW408, hF417, hP418, by omega, ((hF409.1 10 rfl).trans (e380)), ((hF409.1 16 rfl).trans (e381)), ((hF409.1 15 rfl).trans (e382)), (e411), ((hF409.1 11 rfl).trans (e384)), e412, by omega, by omega, by omega, by omega, by omega, by omega, by first | exact Or.inl (⟨by omega, by omega, by omega⟩)⟩
                            · have _q : True := trivial
                              refine jx_ld (pc' := 172) (l' := jSto1 L71 3 (.int (i32 (r369)))) (st' := []) rfl rfl ?_
                              obtain ⟨L420, eL420⟩ : ∃ q, q = jSto1 L71 3 (.int (i32 (r369))) := ⟨_, rfl⟩
                              rw [← eL420]
                              have gL420_0 : jGet L420 0 = some (.ref 66) := eL420 ▸ jg_ne (by decide) gL71_0 rfl
                              have gL420_1 : jGet L420 1 = some (.int (i32 (pa))) := eL420 ▸ jg_ne (by decide) gL71_1 rfl
                              have gL420_2 : jGet L420 2 = some (.int (i32 (kp))) := eL420 ▸ jg_ne (by decide) gL71_2 rfl
                              have gL420_4 : jGet L420 4 = some (.int (i32 (G 12))) := eL420 ▸ jg_ne (by decide) gL71_4 rfl
                              have gL420_5 : jGet L420 5 = some (.int (i32 (r47))) := eL420 ▸ jg_ne (by decide) gL71_5 rfl
                              have gL420_3 : jGet L420 3 = some (.int (i32 (r369))) := eL420 ▸ jg_eq
                              refine jx_ld (pc' := 173) (l' := L420) (st' := [.ref 66]) rfl (jl_aloadn gL420_0) ?_
                              refine jx_ar (pc' := 175) (st' := [.int (i32 (7)), .ref 66]) rfl rfl rfl rfl ?_
                              refine jx_ld (pc' := 176) (l' := L420) (st' := [.int (i32 (r369)), .int (i32 (7)), .ref 66]) rfl (jl_iloadn gL420_3) ?_
                              refine jx_ld (pc' := 177) (l' := L420) (st' := [.int (i32 (pa)), .int (i32 (r369)), .int (i32 (7)), .ref 66]) rfl (jl_iloadn gL420_1) ?_
                              refine jx_ar (pc' := 178) (st' := [.int (i32 (0)), .int (i32 (pa)), .int (i32 (r369)), .int (i32 (7)), .ref 66]) rfl rfl rfl rfl ?_
                              refine jx_ar (pc' := 179) (st' := [.int (i32 (0)), .int (i32 (0)), .int (i32 (pa)), .int (i32 (r369)), .int (i32 (7)), .ref 66]) rfl rfl rfl rfl ?_
                              refine jx_vr (pc' := 182) (as := [.int (i32 (7)), .int (i32 (r369)), .int (i32 (pa)), .int (i32 (0)), .int (i32 (0))]) (st := []) rfl rfl rfl rfl ⟨rfl, rfl, Nat.le_of_ble_eq_true rfl⟩ rfl rfl (c_node_o (dd := d) (hd := by omega) (hW := hW376) (kind := 7) (a := r369) (b := pa) (c := 0) (e := 0) (nd := nd2_373) (e_nd := show G367 31 = nd2_373 from (e383)) (ec := ec2_375) (e_ec := show ecn A368 (G367 31) = ec2_375 from e385)  (h_kind := ⟨(by decide), (by decide)⟩) (h_a := ⟨(Int.le_trans (by decide : (-2147483648 : Int) ≤ -2147483648) b379.1), (Int.le_trans b379.2 (by decide : (2147483647 : Int) ≤ 2147483647))⟩) (h_b := ⟨(Int.le_trans (by decide : (-2147483648 : Int) ≤ -2147483648) h_pa.1), (Int.le_trans h_pa.2 (by decide : (2147483647 : Int) ≤ 2147483647))⟩) (h_c := ⟨(by decide), (by decide)⟩) (h_e := ⟨(by decide), (by decide)⟩)  (p_0 := by omega) (p_1 := by omega) (p_2 := by omega)) (fun o V' hq => ?_)
                              obtain ⟨G421, A422, nd2_423, ec2_424, rfl, rfl, hW425, hF426, hQ427, e428, e429, p430, p431, p432, -⟩ := hq
                              have hF434 := Fr_tr hF393 hF426 (Fr_sub (by decide)) (Fr_sub (by decide))
                              have hP435 := Pf_tr hP394 hQ427 (by omega)
                              have sf436 : wR A422 Vs sb (20) (1) (r369) (nd) (nd2_373) := wR_ag (by omega) (Sg_fr hF426 (by decide)) (Ag_pf hQ427 (by omega)) a401
                              have bnd2_423 : (0 : Int) ≤ nd2_423 ∧ nd2_423 ≤ 6999 := e428 ▸ hW425.1 31
                              refine .inr ⟨_, rfl, ?_⟩
                              refine jx_rt (v := some (.int (i32 (nd2_373)))) rfl rfl rfl rfl rfl rfl ?_
                              have z437 := tz_f (tk2_374)
                              exact ⟨_, _, _, at2_370, fk2_371, op2_372, nd2_423, tk2_374, ec2_424, rfl, rfl, hW425, hF434, hP435, by omega, ((hF426.1 10 rfl).trans (e380)), ((hF426.1 16 rfl).trans (e381)), ((hF426.1 15 rfl).trans (e382)), (e428), ((hF426.1 11 rfl).trans (e384)), e429, by omega, by omega, by omega, by omega, by omega, by omega, by first | exact Or.inr ((⟨by omega, by omega, by omega, by omega, by omega, (wA_mk p432 (by omega) (by omega) (by omega) (by omega) (.inr (.inr (.inl ⟨((show A422 7 (pa).toNat = kp from (congrFun ((hF426.2 7 rfl).trans ((hF377.2 7 rfl).trans ((hF284.2 7 rfl).trans (hF50.2 7 rfl)))) _).trans (e_kp)).trans (by omega : kp = 8)), (wR_mono (by omega) (by omega) (by omega) sf436)⟩)))), (NX_nd p432), by omega, by omega⟩))⟩
                        · have _q := h294
                          refine jx_ld (pc' := 139) (l' := L71) (st' := [.ref 66]) rfl (jl_aloadn gL71_0) ?_
                          refine jx_ar (pc' := 140) (st' := [.int (i32 (2)), .ref 66]) rfl rfl rfl rfl ?_
                          refine jx_ld (pc' := 142) (l' := L71) (st' := [.int (i32 (r47)), .int (i32 (2)), .ref 66]) rfl (jl_iload gL71_5) ?_
                          refine jx_ar (pc' := 143) (st' := [.int (i32 (0)), .int (i32 (r47)), .int (i32 (2)), .ref 66]) rfl rfl rfl rfl ?_
                          refine jx_ar (pc' := 144) (st' := [.int (i32 (0)), .int (i32 (0)), .int (i32 (r47)), .int (i32 (2)), .ref 66]) rfl rfl rfl rfl ?_
                          refine jx_ar (pc' := 145) (st' := [.int (i32 (0)), .int (i32 (0)), .int (i32 (0)), .int (i32 (r47)), .int (i32 (2)), .ref 66]) rfl rfl rfl rfl ?_
                          refine jx_vr (pc' := 148) (as := [.int (i32 (2)), .int (i32 (r47)), .int (i32 (0)), .int (i32 (0)), .int (i32 (0))]) (st := []) rfl rfl rfl rfl ⟨rfl, rfl, Nat.le_of_ble_eq_true rfl⟩ rfl rfl (c_node_o (dd := d) (hd := by omega) (hW := hW283) (kind := 2) (a := r47) (b := 0) (c := 0) (e := 0) (nd := nd) (e_nd := show G279 31 = nd from ((hF284.1 31 rfl).trans ((hF50.1 31 rfl).trans (e_nd)))) (ec := ec) (e_ec := show ecn A280 (G279 31) = ec from ec293)  (h_kind := ⟨(by decide), (by decide)⟩) (h_a := ⟨(Int.le_trans (by decide : (-2147483648 : Int) ≤ -2147483648) b51.1), (Int.le_trans b51.2 (by decide : (2147483647 : Int) ≤ 2147483647))⟩) (h_b := ⟨(by decide), (by decide)⟩) (h_c := ⟨(by decide), (by decide)⟩) (h_e := ⟨(by decide), (by decide)⟩)  (p_0 := by omega) (p_1 := by omega) (p_2 := by omega)) (fun o V' hq => ?_)
                          obtain ⟨G438, A439, nd2_440, ec2_441, rfl, rfl, hW442, hF443, hQ444, e445, e446, p447, p448, p449, -⟩ := hq
                          have hF451 := Fr_tr hF291 hF443 (Fr_sub (by decide)) (Fr_sub (by decide))
                          have hP452 := Pf_tr hP292 hQ444 (by omega)
                          have bnd2_440 : (0 : Int) ≤ nd2_440 ∧ nd2_440 ≤ 6999 := e445 ▸ hW442.1 31
                          refine .inr ⟨_, rfl, ?_⟩
                          refine jx_ld (pc' := 149) (l' := jSto1 L71 3 (.int (i32 (nd)))) (st' := []) rfl rfl ?_
                          obtain ⟨L453, eL453⟩ : ∃ q, q = jSto1 L71 3 (.int (i32 (nd))) := ⟨_, rfl⟩
                          rw [← eL453]
                          have gL453_0 : jGet L453 0 = some (.ref 66) := eL453 ▸ jg_ne (by decide) gL71_0 rfl
                          have gL453_1 : jGet L453 1 = some (.int (i32 (pa))) := eL453 ▸ jg_ne (by decide) gL71_1 rfl
                          have gL453_2 : jGet L453 2 = some (.int (i32 (kp))) := eL453 ▸ jg_ne (by decide) gL71_2 rfl
                          have gL453_4 : jGet L453 4 = some (.int (i32 (G 12))) := eL453 ▸ jg_ne (by decide) gL71_4 rfl
                          have gL453_5 : jGet L453 5 = some (.int (i32 (r47))) := eL453 ▸ jg_ne (by decide) gL71_5 rfl
                          have gL453_3 : jGet L453 3 = some (.int (i32 (nd))) := eL453 ▸ jg_eq
                          refine jx_go (tg := 172) rfl rfl ?_
                          refine jx_ld (pc' := 173) (l' := L453) (st' := [.ref 66]) rfl (jl_aloadn gL453_0) ?_
                          refine jx_ar (pc' := 175) (st' := [.int (i32 (7)), .ref 66]) rfl rfl rfl rfl ?_
                          refine jx_ld (pc' := 176) (l' := L453) (st' := [.int (i32 (nd)), .int (i32 (7)), .ref 66]) rfl (jl_iloadn gL453_3) ?_
                          refine jx_ld (pc' := 177) (l' := L453) (st' := [.int (i32 (pa)), .int (i32 (nd)), .int (i32 (7)), .ref 66]) rfl (jl_iloadn gL453_1) ?_
                          refine jx_ar (pc' := 178) (st' := [.int (i32 (0)), .int (i32 (pa)), .int (i32 (nd)), .int (i32 (7)), .ref 66]) rfl rfl rfl rfl ?_
                          refine jx_ar (pc' := 179) (st' := [.int (i32 (0)), .int (i32 (0)), .int (i32 (pa)), .int (i32 (nd)), .int (i32 (7)), .ref 66]) rfl rfl rfl rfl ?_
                          refine jx_vr (pc' := 182) (as := [.int (i32 (7)), .int (i32 (nd)), .int (i32 (pa)), .int (i32 (0)), .int (i32 (0))]) (st := []) rfl rfl rfl rfl ⟨rfl, rfl, Nat.le_of_ble_eq_true rfl⟩ rfl rfl (c_node_o (dd := d) (hd := by omega) (hW := hW442) (kind := 7) (a := nd) (b := pa) (c := 0) (e := 0) (nd := nd2_440) (e_nd := show G438 31 = nd2_440 from (e445)) (ec := ec2_441) (e_ec := show ecn A439 (G438 31) = ec2_441 from e446)  (h_kind := ⟨(by decide), (by decide)⟩) (h_a := ⟨(Int.le_trans (by decide : (-2147483648 : Int) ≤ 0) b_nd.1), (Int.le_trans b_nd.2 (by decide : (6999 : Int) ≤ 2147483647))⟩) (h_b := ⟨(Int.le_trans (by decide : (-2147483648 : Int) ≤ -2147483648) h_pa.1), (Int.le_trans h_pa.2 (by decide : (2147483647 : Int) ≤ 2147483647))⟩) (h_c := ⟨(by decide), (by decide)⟩) (h_e := ⟨(by decide), (by decide)⟩)  (p_0 := by omega) (p_1 := by omega) (p_2 := by omega)) (fun o V' hq => ?_)
                          obtain ⟨G454, A455, nd2_456, ec2_457, rfl, rfl, hW458, hF459, hQ460, e461, e462, p463, p464, p465, -⟩ := hq
                          have hF467 := Fr_tr hF451 hF459 (Fr_sub (by decide)) (Fr_sub (by decide))
                          have hP468 := Pf_tr hP452 hQ460 (by omega)
                          have sf469 : ND A455 (nd) (2) (r47) (0) (0) (0) (0) (0) := ND_ag (by omega) (Ag_pf hQ460 (by omega)) p449
                          have bnd2_456 : (0 : Int) ≤ nd2_456 ∧ nd2_456 ≤ 6999 := e461 ▸ hW458.1 31
                          refine .inr ⟨_, rfl, ?_⟩
                          refine jx_rt (v := some (.int (i32 (nd2_440)))) rfl rfl rfl rfl rfl rfl ?_
                          have z470 := tz_f (tk2_282)
                          exact ⟨_, _, _, at2_281, fk2_48, op0, nd2_456, tk2_282, ec2_457, rfl, rfl, hW458, hF467, hP468, by omega, ((hF459.1 10 rfl).trans ((hF443.1 10 rfl).trans (e285))), ((hF459.1 16 rfl).trans ((hF443.1 16 rfl).trans ((hF284.1 16 rfl).trans (e52)))), ((hF459.1 15 rfl).trans ((hF443.1 15 rfl).trans ((hF284.1 15 rfl).trans ((hF50.1 15 rfl).trans (e_op0))))), (e461), ((hF459.1 11 rfl).trans ((hF443.1 11 rfl).trans (e286))), e462, by omega, by omega, by omega, by omega, by omega, by omega, by first | exact Or.inr ((⟨by omega, by omega, by omega, by omega, by omega, (wA_mk p465 (by omega) (by omega) (by omega) (by omega) (.inr (.inr (.inr ⟨((show A455 7 (pa).toNat = kp from (congrFun ((hF459.2 7 rfl).trans ((hF443.2 7 rfl).trans ((hF284.2 7 rfl).trans (hF50.2 7 rfl)))) _).trans (e_kp)).trans (by omega : kp = 7)), wW_mk sf469 (by omega) (by omega) a62 (kq (P := kArr) (show A455 7 (r47).toNat = A 7 (r47).toNat from (congrFun ((hF459.2 7 rfl).trans ((hF443.2 7 rfl).trans ((hF284.2 7 rfl).trans (hF50.2 7 rfl)))) _)) a275) ((show A455 8 (r47).toNat = A 8 (r47).toNat from (congrFun ((hF459.2 8 rfl).trans ((hF443.2 8 rfl).trans ((hF284.2 8 rfl).trans (hF50.2 8 rfl)))) _)).trans ((by omega : A 8 (r47).toNat = zp).trans (show A455 8 (pa).toNat = zp from (congrFun ((hF459.2 8 rfl).trans ((hF443.2 8 rfl).trans ((hF284.2 8 rfl).trans (hF50.2 8 rfl)))) _).trans (e_zp)).symm))⟩)))), (NX_nd p465), by omega, by omega⟩))⟩
                      · have _q := h278
                        refine jx_ld (pc' := 120) (l' := L71) (st' := [.ref 66]) rfl (jl_aloadn gL71_0) ?_
                        refine jx_ar (pc' := 121) (st' := [.int (i32 (4)), .ref 66]) rfl rfl rfl rfl ?_
                        refine jx_ld (pc' := 123) (l' := L71) (st' := [.int (i32 (G 12)), .int (i32 (4)), .ref 66]) rfl (jl_iload gL71_4) ?_
                        refine jx_vr (pc' := 126) (as := [.int (i32 (4)), .int (i32 (G 12))]) (st := []) rfl rfl rfl rfl ⟨rfl, rfl, Nat.le_of_ble_eq_true rfl⟩ rfl rfl (c_fail (dd := d) (hd := by omega) (hW := hW49) (kind := 4) (place := G 12) (fk := fk2_48) (e_fk := show G45 16 = fk2_48 from (e52))  (h_kind := ⟨(by decide), (by decide)⟩) (h_place := ⟨(Int.le_trans (by decide : (-2147483648 : Int) ≤ -3000) b43.1), (Int.le_trans b43.2 (by decide : (3002 : Int) ≤ 2147483647))⟩)  (p_0 := by omega) (p_1 := by omega)) (fun o V' hq => ?_)
                        obtain ⟨G471, A472, fk2_473, rfl, rfl, hW474, hF475, e476, p477, -⟩ := hq
                        have hF479 := Fr_tr hF54 hF475 (Fr_sub (by decide)) (Fr_sub (by decide))
                        have hP480 := Pf_f hP55 hF475 (by decide)
                        have ec481 : ecn A472 (G471 31) = ec := (ecn_f (hF475.2 15 rfl) (hF475.1 31 rfl)).trans ec56
                        have bfk2_473 : (0 : Int) ≤ fk2_473 ∧ fk2_473 ≤ 6 := e476 ▸ hW474.1 16
                        refine .inl ⟨rfl, ?_⟩
                        refine jx_ar (pc' := 127) (st' := [.int (i32 (0))]) rfl rfl rfl rfl ?_
                        refine jx_rt (v := some (.int (i32 (0)))) rfl rfl rfl rfl rfl rfl ?_
                        have z482 := tz_f (tk0)
                        exact ⟨_, _, _, at0, fk2_473, op0, nd, tk0, ec, rfl, rfl, hW474, hF479, hP480, by omega, ((hF475.1 10 rfl).trans ((hF50.1 10 rfl).trans (e_at0))), (e476), ((hF475.1 15 rfl).trans ((hF50.1 15 rfl).trans (e_op0))), ((hF475.1 31 rfl).trans ((hF50.1 31 rfl).trans (e_nd))), ((hF475.1 11 rfl).trans ((hF50.1 11 rfl).trans (e_tk0))), ec481, by omega, by omega, by omega, by omega, by omega, by omega, by first | exact Or.inl (⟨by omega, by omega, by omega⟩)⟩
                  · have _q : True := trivial
                    refine jx_if_eq (pc' := 103) (tg := 119) rfl rfl rfl (by decide) (by decide) (fun h483 => ?_) (fun h483 => ?_)
                    · have _q := h483
                      refine jx_ld (pc' := 120) (l' := L71) (st' := [.ref 66]) rfl (jl_aloadn gL71_0) ?_
                      refine jx_ar (pc' := 121) (st' := [.int (i32 (4)), .ref 66]) rfl rfl rfl rfl ?_
                      refine jx_ld (pc' := 123) (l' := L71) (st' := [.int (i32 (G 12)), .int (i32 (4)), .ref 66]) rfl (jl_iload gL71_4) ?_
                      refine jx_vr (pc' := 126) (as := [.int (i32 (4)), .int (i32 (G 12))]) (st := []) rfl rfl rfl rfl ⟨rfl, rfl, Nat.le_of_ble_eq_true rfl⟩ rfl rfl (c_fail (dd := d) (hd := by omega) (hW := hW49) (kind := 4) (place := G 12) (fk := fk2_48) (e_fk := show G45 16 = fk2_48 from (e52))  (h_kind := ⟨(by decide), (by decide)⟩) (h_place := ⟨(Int.le_trans (by decide : (-2147483648 : Int) ≤ -3000) b43.1), (Int.le_trans b43.2 (by decide : (3002 : Int) ≤ 2147483647))⟩)  (p_0 := by omega) (p_1 := by omega)) (fun o V' hq => ?_)
                      obtain ⟨G484, A485, fk2_486, rfl, rfl, hW487, hF488, e489, p490, -⟩ := hq
                      have hF492 := Fr_tr hF54 hF488 (Fr_sub (by decide)) (Fr_sub (by decide))
                      have hP493 := Pf_f hP55 hF488 (by decide)
                      have ec494 : ecn A485 (G484 31) = ec := (ecn_f (hF488.2 15 rfl) (hF488.1 31 rfl)).trans ec56
                      have bfk2_486 : (0 : Int) ≤ fk2_486 ∧ fk2_486 ≤ 6 := e489 ▸ hW487.1 16
                      refine .inl ⟨rfl, ?_⟩
                      refine jx_ar (pc' := 127) (st' := [.int (i32 (0))]) rfl rfl rfl rfl ?_
                      refine jx_rt (v := some (.int (i32 (0)))) rfl rfl rfl rfl rfl rfl ?_
                      have z495 := tz_f (tk0)
                      exact ⟨_, _, _, at0, fk2_486, op0, nd, tk0, ec, rfl, rfl, hW487, hF492, hP493, by omega, ((hF488.1 10 rfl).trans ((hF50.1 10 rfl).trans (e_at0))), (e489), ((hF488.1 15 rfl).trans ((hF50.1 15 rfl).trans (e_op0))), ((hF488.1 31 rfl).trans ((hF50.1 31 rfl).trans (e_nd))), ((hF488.1 11 rfl).trans ((hF50.1 11 rfl).trans (e_tk0))), ec494, by omega, by omega, by omega, by omega, by omega, by omega, by first | exact Or.inl (⟨by omega, by omega, by omega⟩)⟩
                    · have _q := h483
                      exact absurd h483 (by omega)
              · have _q := h77
                exact absurd h77 (by omega)
        · have _q := h42
          refine jx_ld (pc' := 52) (l' := L2) (st' := [.ref 66]) rfl (jl_aloadn gL2_0) ?_
          refine jx_ar (pc' := 53) (st' := [.int (i32 (4)), .ref 66]) rfl rfl rfl rfl ?_
          refine jx_ld (pc' := 54) (l' := L2) (st' := [.ref 66, .int (i32 (4)), .ref 66]) rfl (jl_aloadn gL2_0) ?_
          have b496 : (-3000 : Int) ≤ G 12 ∧ G 12 ≤ 3002 := hW.1 12
          refine jr_get (pc' := 57) (i := 12) (v := .int (i32 (G 12))) rfl rfl (by decide) rfl rfl ?_
          refine jx_vr (pc' := 60) (as := [.int (i32 (4)), .int (i32 (G 12))]) (st := []) rfl rfl rfl rfl ⟨rfl, rfl, Nat.le_of_ble_eq_true rfl⟩ rfl rfl (c_fail (dd := d) (hd := by omega) (hW := hW) (kind := 4) (place := G 12) (fk := fk) (e_fk := show G 16 = fk from (e_fk))  (h_kind := ⟨(by decide), (by decide)⟩) (h_place := ⟨(Int.le_trans (by decide : (-2147483648 : Int) ≤ -3000) b496.1), (Int.le_trans b496.2 (by decide : (3002 : Int) ≤ 2147483647))⟩)  (p_0 := by omega) (p_1 := by omega)) (fun o V' hq => ?_)
          obtain ⟨G497, A498, fk2_499, rfl, rfl, hW500, hF501, e502, p503, -⟩ := hq
          have hF505 := Fr_tr hF0 hF501 (Fr_sub (by decide)) (Fr_sub (by decide))
          have hP506 := Pf_f hP0 hF501 (by decide)
          have ec507 : ecn A498 (G497 31) = ec := (ecn_f (hF501.2 15 rfl) (hF501.1 31 rfl)).trans e_ec
          have bfk2_499 : (0 : Int) ≤ fk2_499 ∧ fk2_499 ≤ 6 := e502 ▸ hW500.1 16
          refine .inl ⟨rfl, ?_⟩
          refine jx_go (tg := 172) rfl rfl ?_
          refine jx_ld (pc' := 173) (l' := L2) (st' := [.ref 66]) rfl (jl_aloadn gL2_0) ?_
          refine jx_ar (pc' := 175) (st' := [.int (i32 (7)), .ref 66]) rfl rfl rfl rfl ?_
          refine jx_ld (pc' := 176) (l' := L2) (st' := [.int (i32 (0)), .int (i32 (7)), .ref 66]) rfl (jl_iloadn gL2_3) ?_
          refine jx_ld (pc' := 177) (l' := L2) (st' := [.int (i32 (pa)), .int (i32 (0)), .int (i32 (7)), .ref 66]) rfl (jl_iloadn gL2_1) ?_
          refine jx_ar (pc' := 178) (st' := [.int (i32 (0)), .int (i32 (pa)), .int (i32 (0)), .int (i32 (7)), .ref 66]) rfl rfl rfl rfl ?_
          refine jx_ar (pc' := 179) (st' := [.int (i32 (0)), .int (i32 (0)), .int (i32 (pa)), .int (i32 (0)), .int (i32 (7)), .ref 66]) rfl rfl rfl rfl ?_
          refine jx_vr (pc' := 182) (as := [.int (i32 (7)), .int (i32 (0)), .int (i32 (pa)), .int (i32 (0)), .int (i32 (0))]) (st := []) rfl rfl rfl rfl ⟨rfl, rfl, Nat.le_of_ble_eq_true rfl⟩ rfl rfl (c_node_o (dd := d) (hd := by omega) (hW := hW500) (kind := 7) (a := 0) (b := pa) (c := 0) (e := 0) (nd := nd) (e_nd := show G497 31 = nd from ((hF501.1 31 rfl).trans (e_nd))) (ec := ec) (e_ec := show ecn A498 (G497 31) = ec from ec507)  (h_kind := ⟨(by decide), (by decide)⟩) (h_a := ⟨(by decide), (by decide)⟩) (h_b := ⟨(Int.le_trans (by decide : (-2147483648 : Int) ≤ -2147483648) h_pa.1), (Int.le_trans h_pa.2 (by decide : (2147483647 : Int) ≤ 2147483647))⟩) (h_c := ⟨(by decide), (by decide)⟩) (h_e := ⟨(by decide), (by decide)⟩)  (p_0 := by omega) (p_1 := by omega) (p_2 := by omega)) (fun o V' hq => ?_)
          obtain ⟨G508, A509, nd2_510, ec2_511, rfl, rfl, hW512, hF513, hQ514, e515, e516, p517, p518, p519, -⟩ := hq
          have hF521 := Fr_tr hF505 hF513 (Fr_sub (by decide)) (Fr_sub (by decide))
          have hP522 := Pf_tr hP506 hQ514 (by omega)
          have bnd2_510 : (0 : Int) ≤ nd2_510 ∧ nd2_510 ≤ 6999 := e515 ▸ hW512.1 31
          refine .inr ⟨_, rfl, ?_⟩
          refine jx_rt (v := some (.int (i32 (nd)))) rfl rfl rfl rfl rfl rfl ?_
          have z523 := tz_f (tk0)
          exact ⟨_, _, _, at0, fk2_499, op0, nd2_510, tk0, ec2_511, rfl, rfl, hW512, hF521, hP522, by omega, ((hF513.1 10 rfl).trans ((hF501.1 10 rfl).trans (e_at0))), ((hF513.1 16 rfl).trans (e502)), ((hF513.1 15 rfl).trans ((hF501.1 15 rfl).trans (e_op0))), (e515), ((hF513.1 11 rfl).trans ((hF501.1 11 rfl).trans (e_tk0))), e516, by omega, by omega, by omega, by omega, by omega, by omega, by first | exact Or.inl (⟨by omega, by omega, by omega⟩)⟩
      · have _q := h40
        refine jx_ld (pc' := 36) (l' := L2) (st' := [.ref 66]) rfl (jl_aloadn gL2_0) ?_
        refine jx_vr (pc' := 39) (as := []) (st := []) rfl rfl rfl rfl ⟨rfl, rfl, Nat.le_of_ble_eq_true rfl⟩ rfl rfl (RE_all X 9 (dd := d) (hd := by omega) (hW := hW)  (ln := ln) (e_ln := show G 9 = ln from (e_ln)) (le := le) (e_le := show A 4 (ln).toNat = le from (e_le)) (at0 := at0) (e_at0 := show G 10 = at0 from (e_at0)) (fk := fk) (e_fk := show G 16 = fk from (e_fk)) (op0 := op0) (e_op0 := show G 15 = op0 from (e_op0)) (nd := nd) (e_nd := show G 31 = nd from (e_nd)) (tk0 := tk0) (e_tk0 := show G 11 = tk0 from (e_tk0)) (ec := ec) (e_ec := show ecn A (G 31) = ec from e_ec) (i_SV := (SV_ext (rfl) (rfl) i_SV))   (p_0 := by omega) (p_1 := by omega) (p_2 := by omega) (p_3 := by omega) (p_4 := by omega) (p_5 := by omega)) (fun o V' hq => ?_)
        obtain ⟨G524, A525, r526, at2_527, fk2_528, op2_529, nd2_530, tk2_531, ec2_532, rfl, rfl, hW533, hF534, hQ535, b536, e537, e538, e539, e540, e541, e542, p543, p544, p545, p546, p547, p548, q549⟩ := hq
        have hF550 := Fr_tr hF0 hF534 (Fr_sub (by decide)) (Fr_sub (by decide))
        have hP551 := Pf_tr hP0 hQ535 (by omega)
        have bat2_527 : (0 : Int) ≤ at2_527 ∧ at2_527 ≤ 3002 := e537 ▸ hW533.1 10
        have bfk2_528 : (0 : Int) ≤ fk2_528 ∧ fk2_528 ≤ 6 := e538 ▸ hW533.1 16
        have bop2_529 : (-2147483648 : Int) ≤ op2_529 ∧ op2_529 ≤ 2147483647 := e539 ▸ hW533.1 15
        have bnd2_530 : (0 : Int) ≤ nd2_530 ∧ nd2_530 ≤ 6999 := e540 ▸ hW533.1 31
        have ztk2_531 := tz_b tk2_531
        have btk2_531 : (0 : Int) ≤ tk2_531 ∧ tk2_531 ≤ 5 := e541 ▸ hW533.1 11
        refine .inr ⟨_, rfl, ?_⟩
        rcases q549 with ⟨a552, a553, a554, a555, a556, a557⟩ | ⟨a558, a559, a560⟩ | ⟨a561, a562, a563, a564, a565⟩
        · have _q : True := trivial
          exfalso
          omega
        · have _q : True := trivial
          refine jx_ld (pc' := 40) (l' := jSto1 L2 3 (.int (i32 (r526)))) (st' := []) rfl rfl ?_
          obtain ⟨L566, eL566⟩ : ∃ q, q = jSto1 L2 3 (.int (i32 (r526))) := ⟨_, rfl⟩
          rw [← eL566]
          have gL566_0 : jGet L566 0 = some (.ref 66) := eL566 ▸ jg_ne (by decide) gL2_0 rfl
          have gL566_1 : jGet L566 1 = some (.int (i32 (pa))) := eL566 ▸ jg_ne (by decide) gL2_1 rfl
          have gL566_2 : jGet L566 2 = some (.int (i32 (kp))) := eL566 ▸ jg_ne (by decide) gL2_2 rfl
          have gL566_3 : jGet L566 3 = some (.int (i32 (r526))) := eL566 ▸ jg_eq
          refine jx_go (tg := 172) rfl rfl ?_
          refine jx_ld (pc' := 173) (l' := L566) (st' := [.ref 66]) rfl (jl_aloadn gL566_0) ?_
          refine jx_ar (pc' := 175) (st' := [.int (i32 (7)), .ref 66]) rfl rfl rfl rfl ?_
          refine jx_ld (pc' := 176) (l' := L566) (st' := [.int (i32 (r526)), .int (i32 (7)), .ref 66]) rfl (jl_iloadn gL566_3) ?_
          refine jx_ld (pc' := 177) (l' := L566) (st' := [.int (i32 (pa)), .int (i32 (r526)), .int (i32 (7)), .ref 66]) rfl (jl_iloadn gL566_1) ?_
          refine jx_ar (pc' := 178) (st' := [.int (i32 (0)), .int (i32 (pa)), .int (i32 (r526)), .int (i32 (7)), .ref 66]) rfl rfl rfl rfl ?_
          refine jx_ar (pc' := 179) (st' := [.int (i32 (0)), .int (i32 (0)), .int (i32 (pa)), .int (i32 (r526)), .int (i32 (7)), .ref 66]) rfl rfl rfl rfl ?_
          refine jx_vr (pc' := 182) (as := [.int (i32 (7)), .int (i32 (r526)), .int (i32 (pa)), .int (i32 (0)), .int (i32 (0))]) (st := []) rfl rfl rfl rfl ⟨rfl, rfl, Nat.le_of_ble_eq_true rfl⟩ rfl rfl (c_node_o (dd := d) (hd := by omega) (hW := hW533) (kind := 7) (a := r526) (b := pa) (c := 0) (e := 0) (nd := nd2_530) (e_nd := show G524 31 = nd2_530 from (e540)) (ec := ec2_532) (e_ec := show ecn A525 (G524 31) = ec2_532 from e542)  (h_kind := ⟨(by decide), (by decide)⟩) (h_a := ⟨(Int.le_trans (by decide : (-2147483648 : Int) ≤ -2147483648) b536.1), (Int.le_trans b536.2 (by decide : (2147483647 : Int) ≤ 2147483647))⟩) (h_b := ⟨(Int.le_trans (by decide : (-2147483648 : Int) ≤ -2147483648) h_pa.1), (Int.le_trans h_pa.2 (by decide : (2147483647 : Int) ≤ 2147483647))⟩) (h_c := ⟨(by decide), (by decide)⟩) (h_e := ⟨(by decide), (by decide)⟩)  (p_0 := by omega) (p_1 := by omega) (p_2 := by omega)) (fun o V' hq => ?_)
          obtain ⟨G567, A568, nd2_569, ec2_570, rfl, rfl, hW571, hF572, hQ573, e574, e575, p576, p577, p578, -⟩ := hq
          have hF580 := Fr_tr hF550 hF572 (Fr_sub (by decide)) (Fr_sub (by decide))
          have hP581 := Pf_tr hP551 hQ573 (by omega)
          have bnd2_569 : (0 : Int) ≤ nd2_569 ∧ nd2_569 ≤ 6999 := e574 ▸ hW571.1 31
          refine .inr ⟨_, rfl, ?_⟩
          refine jx_rt (v := some (.int (i32 (nd2_530)))) rfl rfl rfl rfl rfl rfl ?_
          have z582 := tz_f (tk2_531)
          exact ⟨_, _, _, at2_527, fk2_528, op2_529, nd2_569, tk2_531, ec2_570, rfl, rfl, hW571, hF580, hP581, by omega, ((hF572.1 10 rfl).trans (e537)), ((hF572.1 16 rfl).trans (e538)), ((hF572.1 15 rfl).trans (e539)), (e574), ((hF572.1 11 rfl).trans (e541)), e575, by omega, by omega, by omega, by omega, by omega, by omega, by first | exact Or.inl (⟨by omega, by omega, by omega⟩)⟩
        · have _q : True := trivial
          refine jx_ld (pc' := 40) (l' := jSto1 L2 3 (.int (i32 (r526)))) (st' := []) rfl rfl ?_
          obtain ⟨L583, eL583⟩ : ∃ q, q = jSto1 L2 3 (.int (i32 (r526))) := ⟨_, rfl⟩
          rw [← eL583]
          have gL583_0 : jGet L583 0 = some (.ref 66) := eL583 ▸ jg_ne (by decide) gL2_0 rfl
          have gL583_1 : jGet L583 1 = some (.int (i32 (pa))) := eL583 ▸ jg_ne (by decide) gL2_1 rfl
          have gL583_2 : jGet L583 2 = some (.int (i32 (kp))) := eL583 ▸ jg_ne (by decide) gL2_2 rfl
          have gL583_3 : jGet L583 3 = some (.int (i32 (r526))) := eL583 ▸ jg_eq
          refine jx_go (tg := 172) rfl rfl ?_
          refine jx_ld (pc' := 173) (l' := L583) (st' := [.ref 66]) rfl (jl_aloadn gL583_0) ?_
          refine jx_ar (pc' := 175) (st' := [.int (i32 (7)), .ref 66]) rfl rfl rfl rfl ?_
          refine jx_ld (pc' := 176) (l' := L583) (st' := [.int (i32 (r526)), .int (i32 (7)), .ref 66]) rfl (jl_iloadn gL583_3) ?_
          refine jx_ld (pc' := 177) (l' := L583) (st' := [.int (i32 (pa)), .int (i32 (r526)), .int (i32 (7)), .ref 66]) rfl (jl_iloadn gL583_1) ?_
          refine jx_ar (pc' := 178) (st' := [.int (i32 (0)), .int (i32 (pa)), .int (i32 (r526)), .int (i32 (7)), .ref 66]) rfl rfl rfl rfl ?_
          refine jx_ar (pc' := 179) (st' := [.int (i32 (0)), .int (i32 (0)), .int (i32 (pa)), .int (i32 (r526)), .int (i32 (7)), .ref 66]) rfl rfl rfl rfl ?_
          refine jx_vr (pc' := 182) (as := [.int (i32 (7)), .int (i32 (r526)), .int (i32 (pa)), .int (i32 (0)), .int (i32 (0))]) (st := []) rfl rfl rfl rfl ⟨rfl, rfl, Nat.le_of_ble_eq_true rfl⟩ rfl rfl (c_node_o (dd := d) (hd := by omega) (hW := hW533) (kind := 7) (a := r526) (b := pa) (c := 0) (e := 0) (nd := nd2_530) (e_nd := show G524 31 = nd2_530 from (e540)) (ec := ec2_532) (e_ec := show ecn A525 (G524 31) = ec2_532 from e542)  (h_kind := ⟨(by decide), (by decide)⟩) (h_a := ⟨(Int.le_trans (by decide : (-2147483648 : Int) ≤ -2147483648) b536.1), (Int.le_trans b536.2 (by decide : (2147483647 : Int) ≤ 2147483647))⟩) (h_b := ⟨(Int.le_trans (by decide : (-2147483648 : Int) ≤ -2147483648) h_pa.1), (Int.le_trans h_pa.2 (by decide : (2147483647 : Int) ≤ 2147483647))⟩) (h_c := ⟨(by decide), (by decide)⟩) (h_e := ⟨(by decide), (by decide)⟩)  (p_0 := by omega) (p_1 := by omega) (p_2 := by omega)) (fun o V' hq => ?_)
          obtain ⟨G584, A585, nd2_586, ec2_587, rfl, rfl, hW588, hF589, hQ590, e591, e592, p593, p594, p595, -⟩ := hq
          have hF597 := Fr_tr hF550 hF589 (Fr_sub (by decide)) (Fr_sub (by decide))
          have hP598 := Pf_tr hP551 hQ590 (by omega)
          have sf599 : wE A585 Vs sb (2 * 9 + 2) (r526) (nd) (nd2_530) := wE_ag (by omega) (Sg_fr hF589 (by decide)) (Ag_pf hQ590 (by omega)) a564
          have bnd2_586 : (0 : Int) ≤ nd2_586 ∧ nd2_586 ≤ 6999 := e591 ▸ hW588.1 31
          refine .inr ⟨_, rfl, ?_⟩
          refine jx_rt (v := some (.int (i32 (nd2_530)))) rfl rfl rfl rfl rfl rfl ?_
          have z600 := tz_f (tk2_531)
          exact ⟨_, _, _, at2_527, fk2_528, op2_529, nd2_586, tk2_531, ec2_587, rfl, rfl, hW588, hF597, hP598, by omega, ((hF589.1 10 rfl).trans (e537)), ((hF589.1 16 rfl).trans (e538)), ((hF589.1 15 rfl).trans (e539)), (e591), ((hF589.1 11 rfl).trans (e541)), e592, by omega, by omega, by omega, by omega, by omega, by omega, by first | exact Or.inr ((⟨by omega, by omega, by omega, by omega, by omega, (wA_mk p595 (by omega) (by omega) (by omega) (by omega) (.inl ⟨((show A585 7 (pa).toNat = kp from (congrFun ((hF589.2 7 rfl).trans (hF534.2 7 rfl)) _).trans (e_kp)).trans (by omega : kp = 5)), (wE_mono (by omega) (by omega) (by omega) sf599)⟩)), (NX_nd p595), by omega, by omega⟩))⟩
    · have _q := h39
      exact absurd h39 (by omega)
set_option maxRecDepth 20000 in
set_option maxHeartbeats 4000000 in
theorem c_readCall_w_at_88p {X : jX} {d : Nat} {Vs : Nat → Prop} {sb pb : Int} {c0 c1 : jC} {G : Nat → Int} {A : Nat → Nat → Int} {T : jH} {s : Int} {ln le at0 fk op0 nd tk0 li kd nu mp pp ec : Int} (hd : 71 ≤ d + 1) (hW : Wk G A) (e_ln : G 9 = ln) (e_le : A 4 (ln).toNat = le) (e_at0 : G 10 = at0) (e_fk : G 16 = fk) (e_op0 : G 15 = op0) (e_nd : G 31 = nd) (e_tk0 : G 11 = tk0) (e_li : G 3 = li) (e_kd : A 7 (s).toNat = kd) (e_nu : A 12 (s).toNat = nu) (e_mp : A 30 (nu).toNat = mp) (e_pp : A 29 (nu).toNat = pp) (e_ec : ecn A (G 31) = ec) (i_SV : SV Vs sb G A) (i_PQ : PQ Vs sb pb G A) (h_s : (-2147483648 : Int) ≤ s ∧ s ≤ 2147483647) (p_0 : 0 ≤ op0 ∧ op0 ≤ 8) (p_1 : fk = 0) (p_2 : nd ≤ 2 * at0 - tz tk0 + 42) (p_3 : at0 ≤ le) (p_4 : ln < li) (p_5 : 0 ≤ s ∧ s ≤ 201) (p_6 : 1 ≤ tk0) (p_7 : kd = 14) (p_8 : SY Vs sb (s)) : ∀ (L : jL) (Gx : Nat → Int) (Ax : Nat → Nat → Int) (n many last kk at1 tk1 fk1 nd1 op1 ec1 : Int), jGet L 0 = some (.ref 66) → jGet L 1 = some (.int (i32 (s))) → jGet L 2 = some (.int (i32 n)) → jGet L 3 = some (.int (i32 many)) → jGet L 4 = some (.int (i32 last)) → jGet L 5 = some (.int (i32 kk)) → Wk Gx Ax → Fr [9, 10, 11, 12, 13, 14, 15, 16, 17, 18, 31] [15, 16, 17, 18, 19, 20, 21, 22, 24, 28] G A Gx Ax → Pf nd A Ax → Gx 10 = at1 → Gx 11 = tk1 → Gx 16 = fk1 → Gx 31 = nd1 → Gx 15 = op1 → ecn Ax (Gx 31) = ec1 → Gx 9 = ln → ((-2147483648 : Int) ≤ n ∧ n ≤ 2147483647) → ((-2147483648 : Int) ≤ many ∧ many ≤ 2147483647) → ((-2147483648 : Int) ≤ last ∧ last ≤ 2147483647) → ((-2147483648 : Int) ≤ kk ∧ kk ≤ 2147483647) → (1 ≤ fk1) → (at0 ≤ at1) → (at1 ≤ le) → (nd ≤ n ∧ n ≤ 6998) → (nd ≤ nd1 ∧ n < nd1) → (0 ≤ op1 ∧ op1 ≤ 9) → (nd1 - nd ≤ (2 * at1 - tz tk1) - (2 * at0 - tz tk0) + 4) → wj X d jm305 (88, L, [], rV c0 c1 Gx Ax T) (fun o V' => ∃ (G' : Nat → Int) (A' : Nat → Nat → Int) (r : Int) (at2 : Int) (fk2 : Int) (nd2 : Int) (ln2 : Int) (ec2 : Int), V' = rV c0 c1 G' A' T ∧ o = .inl (some (.int (i32 r))) ∧ Wk G' A' ∧ Fr [9, 10, 11, 12, 13, 14, 15, 16, 17, 18, 31] [15, 16, 17, 18, 19, 20, 21, 22, 24, 28] G A G' A' ∧ Pf nd A A' ∧ ((-2147483648 : Int) ≤ r ∧ r ≤ 2147483647) ∧ G' 10 = at2 ∧ G' 16 = fk2 ∧ G' 31 = nd2 ∧ G' 9 = ln2 ∧ ecn A' (G' 31) = ec2 ∧ (at0 ≤ at2) ∧ (at2 ≤ le) ∧ (nd ≤ nd2) ∧ (0 ≤ r) ∧ (r ≤ nd2) ∧ (((1 ≤ fk2) ∧ (ln2 = ln) ∧ (nd2 - nd ≤ 2 * at2 - 2 * at0 + 8)) ∨ ((fk2 = 0) ∧ (ln2 = ln + 1) ∧ (nd2 - nd ≤ 2 * at2 - (2 * at0 - tz tk0) + 0) ∧ (nd ≤ r) ∧ (r < nd2) ∧ (wL A' sb pb Vs (r) (nd) (nd2)) ∧ (NX A' (r)) ∧ (nd2 - nd + 5 * (ec2 - ec) ≤ 2 * at2 - (2 * at0 - tz tk0) + 0) ∧ (nd + 5 * ec ≤ r)))) := by
  have hF0 : Fr [9, 10, 11, 12, 13, 14, 15, 16, 17, 18, 31] [15, 16, 17, 18, 19, 20, 21, 22, 24, 28] G A G A := Fr_rf
  have hP0 : Pf nd A A := Pf_rf
  have b_ln : (0 : Int) ≤ ln ∧ ln ≤ 3000 := e_ln ▸ hW.1 9
  have b_le : (0 : Int) ≤ le ∧ le ≤ 3000 := e_le ▸ hW.2 4 _
  have b_at0 : (0 : Int) ≤ at0 ∧ at0 ≤ 3002 := e_at0 ▸ hW.1 10
  have b_fk : (0 : Int) ≤ fk ∧ fk ≤ 6 := e_fk ▸ hW.1 16
  have b_op0 : (-2147483648 : Int) ≤ op0 ∧ op0 ≤ 2147483647 := e_op0 ▸ hW.1 15
  have b_nd : (0 : Int) ≤ nd ∧ nd ≤ 6999 := e_nd ▸ hW.1 31
  have z_tk0 := tz_f tk0
  have b_tk0 : (0 : Int) ≤ tk0 ∧ tk0 ≤ 5 := e_tk0 ▸ hW.1 11
  have b_li : (0 : Int) ≤ li ∧ li ≤ 3000 := e_li ▸ hW.1 3
  have b_kd : (0 : Int) ≤ kd ∧ kd ≤ 14 := e_kd ▸ hW.2 7 _
  have b_nu : (0 : Int) ≤ nu ∧ nu ≤ 24 := e_nu ▸ hW.2 12 _
  have b_mp : (0 : Int) ≤ mp ∧ mp ≤ 6 := e_mp ▸ hW.2 30 _
  have b_pp : (0 : Int) ≤ pp ∧ pp ≤ 202 := e_pp ▸ hW.2 29 _
  have pq := PQ_at i_PQ p_8 (e_kd.trans (by omega)) e_nu e_mp e_pp
  intro L Gx Ax n many last kk at1 tk1 fk1 nd1 op1 ec1 gL_0 gL_1 gL_2 gL_3 gL_4 gL_5 hWx hFx hPx ex_at1 ex_tk1 ex_fk1 ex_nd1 ex_op1 ex_ec1 fx_9 rx_n rx_many rx_last rx_kk iv_0 iv_1 iv_2 iv_3 iv_4 iv_5 iv_6
  have b_at1 : (0 : Int) ≤ at1 ∧ at1 ≤ 3002 := ex_at1 ▸ hWx.1 10
  have z_tk1 := tz_f tk1
  have b_tk1 : (0 : Int) ≤ tk1 ∧ tk1 ≤ 5 := ex_tk1 ▸ hWx.1 11
  have b_fk1 : (0 : Int) ≤ fk1 ∧ fk1 ≤ 6 := ex_fk1 ▸ hWx.1 16
  have b_nd1 : (0 : Int) ≤ nd1 ∧ nd1 ≤ 6999 := ex_nd1 ▸ hWx.1 31
  have b_op1 : (-2147483648 : Int) ≤ op1 ∧ op1 ≤ 2147483647 := ex_op1 ▸ hWx.1 15
  refine jx_ld (pc' := 89) (l' := L) (st' := [.ref 66]) rfl (jl_aloadn gL_0) ?_
  refine jx_vr (pc' := 92) (as := []) (st := []) rfl rfl rfl rfl ⟨rfl, rfl, Nat.le_of_ble_eq_true rfl⟩ rfl rfl (c_bad (dd := d) (hd := by omega) (hW := hWx)  (fk := fk1) (e_fk := show Gx 16 = fk1 from (ex_fk1))    ) (fun o V' hq => ?_)
  obtain ⟨r1, rfl, rfl, b2, q3⟩ := hq
  refine .inr ⟨_, rfl, ?_⟩
  rcases q3 with ⟨rfl, a4⟩ | ⟨rfl, a5⟩
  · have _q : True := trivial
    refine jx_if_ne (pc' := 95) (tg := 233) rfl rfl rfl (by decide) (by decide) (fun h6 => ?_) (fun h6 => ?_)
    · have _q := h6
      refine jx_ld (pc' := 234) (l' := L) (st' := [.ref 66]) rfl (jl_aloadn gL_0) ?_
      refine jx_ld (pc' := 235) (l' := L) (st' := [.ref 66, .ref 66]) rfl (jl_aloadn gL_0) ?_
      refine jx_ar (pc' := 237) (st' := [.int (i32 (41)), .ref 66, .ref 66]) rfl rfl rfl rfl ?_
      have b7 : (-2147483648 : Int) ≤ Gx 13 ∧ Gx 13 ≤ 2147483647 := hWx.1 13
      refine jx_vr (pc' := 240) (as := [.int (i32 (41))]) (st := [.ref 66]) rfl rfl rfl rfl ⟨rfl, rfl, Nat.le_of_ble_eq_true rfl⟩ rfl rfl (c_is (dd := d) (hd := by omega) (hW := hWx) (k := 41) (tk := tk1) (e_tk := show Gx 11 = tk1 from (ex_tk1)) (tn := Gx 13) (e_tn := show Gx 13 = Gx 13 from rfl)  (h_k := ⟨(by decide), (by decide)⟩)  ) (fun o V' hq => ?_)
      obtain ⟨r8, rfl, rfl, b9, q10⟩ := hq
      refine .inr ⟨_, rfl, ?_⟩
      rcases q10 with ⟨rfl, a11, a12, a13⟩ | rfl
      · have _q : True := trivial
        refine jx_vr (pc' := 243) (as := [.int (i32 (1))]) (st := []) rfl rfl rfl rfl ⟨rfl, rfl, Nat.le_of_ble_eq_true rfl⟩ rfl rfl (c_need (dd := d) (hd := by omega) (hW := hWx) (g := 1) (ln := ln) (e_ln := show Gx 9 = ln from (fx_9)) (le := le) (e_le := show Ax 4 (ln).toNat = le from (congrFun (hFx.2 4 rfl) _).trans (e_le)) (at0 := at1) (e_at0 := show Gx 10 = at1 from (ex_at1)) (fk := fk1) (e_fk := show Gx 16 = fk1 from (ex_fk1)) (tk0 := tk1) (e_tk0 := show Gx 11 = tk1 from (ex_tk1))  (h_g := ⟨(by decide), (by decide)⟩)  (p_0 := by omega)) (fun o V' hq => ?_)
        obtain ⟨G14, A15, at2_16, tk2_17, fk2_18, rfl, rfl, hW19, hF20, e21, e22, e23, p24, p25, q26⟩ := hq
        have hF27 := Fr_tr hFx hF20 (Fr_sub (by decide)) (Fr_sub (by decide))
        have hP28 := Pf_f hPx hF20 (by decide)
        have ec29 : ecn A15 (G14 31) = ec1 := (ecn_f (hF20.2 15 rfl) (hF20.1 31 rfl)).trans ex_ec1
        have bat2_16 : (0 : Int) ≤ at2_16 ∧ at2_16 ≤ 3002 := e21 ▸ hW19.1 10
        have ztk2_17 := tz_b tk2_17
        have btk2_17 : (0 : Int) ≤ tk2_17 ∧ tk2_17 ≤ 5 := e22 ▸ hW19.1 11
        have bfk2_18 : (0 : Int) ≤ fk2_18 ∧ fk2_18 ≤ 6 := e23 ▸ hW19.1 16
        refine .inl ⟨rfl, ?_⟩
        rcases q26 with ⟨a30, a31, a32, a33⟩ | ⟨a34, a35, a36, a37⟩
        · have _q : True := trivial
          refine jx_ld (pc' := 244) (l' := L) (st' := [.ref 66]) rfl (jl_aloadn gL_0) ?_
          refine jx_ar (pc' := 245) (st' := [.ref 66, .ref 66]) rfl rfl rfl rfl ?_
          refine jr_get (pc' := 248) (i := 15) (v := .int (i32 (op1))) rfl rfl (by decide) (rFv_eq (by decide) (show G14 15 = op1 from ((hF20.1 15 rfl).trans (ex_op1)))) rfl ?_
          refine jx_ar (pc' := 249) (st' := [.int (i32 (1)), .int (i32 (op1)), .ref 66]) rfl rfl rfl rfl ?_
          refine jx_sub (pc' := 250) rfl rfl ?_
          refine jr_put (pc' := 253) (i := 15) (z := (op1 - 1)) rfl rfl (by decide) rfl rfl rfl rfl rfl rfl ?_
          have hW38 : Wk (uG G14 15 ((op1 - 1))) A15 := Wk_g hW19 (show (-2147483648 : Int) ≤ (op1 - 1) by omega) (show (op1 - 1) ≤ (2147483647 : Int) by omega)
          have hF39 := Fr_g (z := (op1 - 1)) (i := 15) hF27 (by decide)
          have ec40 : ecn A15 ((uG G14 15 ((op1 - 1))) 31) = ec1 := ec29
          refine jx_ld (pc' := 254) (l' := L) (st' := [.ref 66]) rfl (jl_aloadn gL_0) ?_
          refine jx_vr (pc' := 257) (as := []) (st := []) rfl rfl rfl rfl ⟨rfl, rfl, Nat.le_of_ble_eq_true rfl⟩ rfl rfl (c_endLine (dd := d) (hd := by omega) (hW := hW38)  (ln := ln) (e_ln := show (uG G14 15 ((op1 - 1))) 9 = ln from ((hF20.1 9 rfl).trans (fx_9))) (li := li) (e_li := show (uG G14 15 ((op1 - 1))) 3 = li from ((hF20.1 3 rfl).trans ((hFx.1 3 rfl).trans (e_li)))) (fk := fk2_18) (e_fk := show (uG G14 15 ((op1 - 1))) 16 = fk2_18 from (e23)) (tk0 := tk2_17) (e_tk0 := show (uG G14 15 ((op1 - 1))) 11 = tk2_17 from (e22))    (p_0 := by omega)) (fun o V' hq => ?_)
          obtain ⟨G41, A42, ln2_43, fk2_44, rfl, rfl, hW45, hF46, e47, e48, q49⟩ := hq
          have hF50 := Fr_tr hF39 hF46 (Fr_sub (by decide)) (Fr_sub (by decide))
          have hP51 := Pf_f hP28 hF46 (by decide)
          have ec52 : ecn A42 (G41 31) = ec1 := (ecn_f (hF46.2 15 rfl) (hF46.1 31 rfl)).trans ec40
          have bln2_43 : (0 : Int) ≤ ln2_43 ∧ ln2_43 ≤ 3000 := e47 ▸ hW45.1 9
          have bfk2_44 : (0 : Int) ≤ fk2_44 ∧ fk2_44 ≤ 6 := e48 ▸ hW45.1 16
          refine .inl ⟨rfl, ?_⟩
          rcases q49 with ⟨a53, a54, a55, a56, a57⟩ | ⟨a58, a59⟩
          · have _q : True := trivial
            exfalso
            omega
          · have _q : True := trivial
            refine jx_ld (pc' := 258) (l' := L) (st' := [.int (i32 (n))]) rfl (jl_iloadn gL_2) ?_
            refine jx_rt (v := some (.int (i32 (n)))) rfl rfl rfl rfl rfl rfl ?_
            exact ⟨_, _, _, at2_16, fk2_44, nd1, ln2_43, ec1, rfl, rfl, hW45, hF50, hP51, by omega, ((hF46.1 10 rfl).trans (e21)), (e48), ((hF46.1 31 rfl).trans ((hF20.1 31 rfl).trans (ex_nd1))), (e47), ec52, by omega, by omega, by omega, by omega, by omega, by first | exact Or.inl (⟨by omega, by omega, by omega⟩)⟩
        · have _q : True := trivial
          exfalso
          omega
      · have _q : True := trivial
        refine jx_vr (pc' := 243) (as := [.int (i32 (0))]) (st := []) rfl rfl rfl rfl ⟨rfl, rfl, Nat.le_of_ble_eq_true rfl⟩ rfl rfl (c_need (dd := d) (hd := by omega) (hW := hWx) (g := 0) (ln := ln) (e_ln := show Gx 9 = ln from (fx_9)) (le := le) (e_le := show Ax 4 (ln).toNat = le from (congrFun (hFx.2 4 rfl) _).trans (e_le)) (at0 := at1) (e_at0 := show Gx 10 = at1 from (ex_at1)) (fk := fk1) (e_fk := show Gx 16 = fk1 from (ex_fk1)) (tk0 := tk1) (e_tk0 := show Gx 11 = tk1 from (ex_tk1))  (h_g := ⟨(by decide), (by decide)⟩)  (p_0 := by omega)) (fun o V' hq => ?_)
        obtain ⟨G60, A61, at2_62, tk2_63, fk2_64, rfl, rfl, hW65, hF66, e67, e68, e69, p70, p71, q72⟩ := hq
        have hF73 := Fr_tr hFx hF66 (Fr_sub (by decide)) (Fr_sub (by decide))
        have hP74 := Pf_f hPx hF66 (by decide)
        have ec75 : ecn A61 (G60 31) = ec1 := (ecn_f (hF66.2 15 rfl) (hF66.1 31 rfl)).trans ex_ec1
        have bat2_62 : (0 : Int) ≤ at2_62 ∧ at2_62 ≤ 3002 := e67 ▸ hW65.1 10
        have ztk2_63 := tz_b tk2_63
        have btk2_63 : (0 : Int) ≤ tk2_63 ∧ tk2_63 ≤ 5 := e68 ▸ hW65.1 11
        have bfk2_64 : (0 : Int) ≤ fk2_64 ∧ fk2_64 ≤ 6 := e69 ▸ hW65.1 16
        refine .inl ⟨rfl, ?_⟩
        rcases q72 with ⟨a76, a77, a78, a79⟩ | ⟨a80, a81, a82, a83⟩
        · have _q : True := trivial
          refine jx_ld (pc' := 244) (l' := L) (st' := [.ref 66]) rfl (jl_aloadn gL_0) ?_
          refine jx_ar (pc' := 245) (st' := [.ref 66, .ref 66]) rfl rfl rfl rfl ?_
          refine jr_get (pc' := 248) (i := 15) (v := .int (i32 (op1))) rfl rfl (by decide) (rFv_eq (by decide) (show G60 15 = op1 from ((hF66.1 15 rfl).trans (ex_op1)))) rfl ?_
          refine jx_ar (pc' := 249) (st' := [.int (i32 (1)), .int (i32 (op1)), .ref 66]) rfl rfl rfl rfl ?_
          refine jx_sub (pc' := 250) rfl rfl ?_
          refine jr_put (pc' := 253) (i := 15) (z := (op1 - 1)) rfl rfl (by decide) rfl rfl rfl rfl rfl rfl ?_
          have hW84 : Wk (uG G60 15 ((op1 - 1))) A61 := Wk_g hW65 (show (-2147483648 : Int) ≤ (op1 - 1) by omega) (show (op1 - 1) ≤ (2147483647 : Int) by omega)
          have hF85 := Fr_g (z := (op1 - 1)) (i := 15) hF73 (by decide)
          have ec86 : ecn A61 ((uG G60 15 ((op1 - 1))) 31) = ec1 := ec75
          refine jx_ld (pc' := 254) (l' := L) (st' := [.ref 66]) rfl (jl_aloadn gL_0) ?_
          refine jx_vr (pc' := 257) (as := []) (st := []) rfl rfl rfl rfl ⟨rfl, rfl, Nat.le_of_ble_eq_true rfl⟩ rfl rfl (c_endLine (dd := d) (hd := by omega) (hW := hW84)  (ln := ln) (e_ln := show (uG G60 15 ((op1 - 1))) 9 = ln from ((hF66.1 9 rfl).trans (fx_9))) (li := li) (e_li := show (uG G60 15 ((op1 - 1))) 3 = li from ((hF66.1 3 rfl).trans ((hFx.1 3 rfl).trans (e_li)))) (fk := fk2_64) (e_fk := show (uG G60 15 ((op1 - 1))) 16 = fk2_64 from (e69)) (tk0 := tk2_63) (e_tk0 := show (uG G60 15 ((op1 - 1))) 11 = tk2_63 from (e68))    (p_0 := by omega)) (fun o V' hq => ?_)
          obtain ⟨G87, A88, ln2_89, fk2_90, rfl, rfl, hW91, hF92, e93, e94, q95⟩ := hq
          have hF96 := Fr_tr hF85 hF92 (Fr_sub (by decide)) (Fr_sub (by decide))
          have hP97 := Pf_f hP74 hF92 (by decide)
          have ec98 : ecn A88 (G87 31) = ec1 := (ecn_f (hF92.2 15 rfl) (hF92.1 31 rfl)).trans ec86
          have bln2_89 : (0 : Int) ≤ ln2_89 ∧ ln2_89 ≤ 3000 := e93 ▸ hW91.1 9
          have bfk2_90 : (0 : Int) ≤ fk2_90 ∧ fk2_90 ≤ 6 := e94 ▸ hW91.1 16
          refine .inl ⟨rfl, ?_⟩
          rcases q95 with ⟨a99, a100, a101, a102, a103⟩ | ⟨a104, a105⟩
          · have _q : True := trivial
            exfalso
            omega
          · have _q : True := trivial
            refine jx_ld (pc' := 258) (l' := L) (st' := [.int (i32 (n))]) rfl (jl_iloadn gL_2) ?_
            refine jx_rt (v := some (.int (i32 (n)))) rfl rfl rfl rfl rfl rfl ?_
            exact ⟨_, _, _, at2_62, fk2_90, nd1, ln2_89, ec1, rfl, rfl, hW91, hF96, hP97, by omega, ((hF92.1 10 rfl).trans (e67)), (e94), ((hF92.1 31 rfl).trans ((hF66.1 31 rfl).trans (ex_nd1))), (e93), ec98, by omega, by omega, by omega, by omega, by omega, by first | exact Or.inl (⟨by omega, by omega, by omega⟩)⟩
        · have _q : True := trivial
          exfalso
          omega
    · have _q := h6
      exact absurd h6 (by omega)
  · have _q : True := trivial
    exfalso
    omega
set_option maxRecDepth 20000 in
set_option maxHeartbeats 4000000 in
theorem c_readCall_w_at_88 {X : jX} {d : Nat} {Vs : Nat → Prop} {sb pb : Int} {c0 c1 : jC} {G : Nat → Int} {A : Nat → Nat → Int} {T : jH} {s : Int} {ln le at0 fk op0 nd tk0 li kd nu mp pp ec : Int} (hd : 71 ≤ d + 1) (hW : Wk G A) (e_ln : G 9 = ln) (e_le : A 4 (ln).toNat = le) (e_at0 : G 10 = at0) (e_fk : G 16 = fk) (e_op0 : G 15 = op0) (e_nd : G 31 = nd) (e_tk0 : G 11 = tk0) (e_li : G 3 = li) (e_kd : A 7 (s).toNat = kd) (e_nu : A 12 (s).toNat = nu) (e_mp : A 30 (nu).toNat = mp) (e_pp : A 29 (nu).toNat = pp) (e_ec : ecn A (G 31) = ec) (i_SV : SV Vs sb G A) (i_PQ : PQ Vs sb pb G A) (h_s : (-2147483648 : Int) ≤ s ∧ s ≤ 2147483647) (p_0 : 0 ≤ op0 ∧ op0 ≤ 8) (p_1 : fk = 0) (p_2 : nd ≤ 2 * at0 - tz tk0 + 42) (p_3 : at0 ≤ le) (p_4 : ln < li) (p_5 : 0 ≤ s ∧ s ≤ 201) (p_6 : 1 ≤ tk0) (p_7 : kd = 14) (p_8 : SY Vs sb (s)) : ∀ (m : Nat) (L : jL) (Gx : Nat → Int) (Ax : Nat → Nat → Int) (n many last kk at1 tk1 fk1 nd1 op1 ec1 : Int), (many - kk).toNat = m → jGet L 0 = some (.ref 66) → jGet L 1 = some (.int (i32 (s))) → jGet L 2 = some (.int (i32 n)) → jGet L 3 = some (.int (i32 many)) → jGet L 4 = some (.int (i32 last)) → jGet L 5 = some (.int (i32 kk)) → Wk Gx Ax → Fr [9, 10, 11, 12, 13, 14, 15, 16, 17, 18, 31] [15, 16, 17, 18, 19, 20, 21, 22, 24, 28] G A Gx Ax → Pf nd A Ax → Gx 10 = at1 → Gx 11 = tk1 → Gx 16 = fk1 → Gx 31 = nd1 → Gx 15 = op1 → ecn Ax (Gx 31) = ec1 → Gx 9 = ln → ((-2147483648 : Int) ≤ n ∧ n ≤ 2147483647) → ((-2147483648 : Int) ≤ many ∧ many ≤ 2147483647) → ((-2147483648 : Int) ≤ last ∧ last ≤ 2147483647) → ((-2147483648 : Int) ≤ kk ∧ kk ≤ 2147483647) → (fk1 = 0) → (at0 ≤ at1) → (at1 ≤ le) → (nd ≤ n ∧ n ≤ 6998) → (nd ≤ nd1 ∧ n < nd1) → (0 ≤ many ∧ many ≤ 6) → (last = 0 ∨ n < last) → (last < nd1) → (0 ≤ last ∧ last ≤ 6998) → (0 ≤ kk ∧ kk ≤ many) → (op1 = op0 + 1) → (op1 ≤ 8) → (nd1 - nd ≤ (2 * at1 - tz tk1) - (2 * at0 - tz tk0) + 1) → (kk = many ∨ nd1 - nd ≤ (2 * at1 - tz tk1) - (2 * at0 - tz tk0)) → (many = mp) → (ND Ax (n) (25) (nu) (0) (0) (0) (Ax 21 (n).toNat) (0)) → (CA Ax Vs sb (n) (last) (kk) (pp) (n + 1) (nd1)) → (nd + 5 * ec ≤ n ∧ n ≤ 6998) → (nd + 5 * ec ≤ nd1 ∧ n < nd1) → (nd1 - nd + 5 * (ec1 - ec) ≤ (2 * at1 - tz tk1) - (2 * at0 - tz tk0) + 1) → (kk = many ∨ nd1 - nd + 5 * (ec1 - ec) ≤ (2 * at1 - tz tk1) - (2 * at0 - tz tk0)) → wj X d jm305 (88, L, [], rV c0 c1 Gx Ax T) (fun o V' => ∃ (G' : Nat → Int) (A' : Nat → Nat → Int) (r : Int) (at2 : Int) (fk2 : Int) (nd2 : Int) (ln2 : Int) (ec2 : Int), V' = rV c0 c1 G' A' T ∧ o = .inl (some (.int (i32 r))) ∧ Wk G' A' ∧ Fr [9, 10, 11, 12, 13, 14, 15, 16, 17, 18, 31] [15, 16, 17, 18, 19, 20, 21, 22, 24, 28] G A G' A' ∧ Pf nd A A' ∧ ((-2147483648 : Int) ≤ r ∧ r ≤ 2147483647) ∧ G' 10 = at2 ∧ G' 16 = fk2 ∧ G' 31 = nd2 ∧ G' 9 = ln2 ∧ ecn A' (G' 31) = ec2 ∧ (at0 ≤ at2) ∧ (at2 ≤ le) ∧ (nd ≤ nd2) ∧ (0 ≤ r) ∧ (r ≤ nd2) ∧ (((1 ≤ fk2) ∧ (ln2 = ln) ∧ (nd2 - nd ≤ 2 * at2 - 2 * at0 + 8)) ∨ ((fk2 = 0) ∧ (ln2 = ln + 1) ∧ (nd2 - nd ≤ 2 * at2 - (2 * at0 - tz tk0) + 0) ∧ (nd ≤ r) ∧ (r < nd2) ∧ (wL A' sb pb Vs (r) (nd) (nd2)) ∧ (NX A' (r)) ∧ (nd2 - nd + 5 * (ec2 - ec) ≤ 2 * at2 - (2 * at0 - tz tk0) + 0) ∧ (nd + 5 * ec ≤ r)))) := by
  have hF0 : Fr [9, 10, 11, 12, 13, 14, 15, 16, 17, 18, 31] [15, 16, 17, 18, 19, 20, 21, 22, 24, 28] G A G A := Fr_rf
  have hP0 : Pf nd A A := Pf_rf
  have b_ln : (0 : Int) ≤ ln ∧ ln ≤ 3000 := e_ln ▸ hW.1 9
  have b_le : (0 : Int) ≤ le ∧ le ≤ 3000 := e_le ▸ hW.2 4 _
  have b_at0 : (0 : Int) ≤ at0 ∧ at0 ≤ 3002 := e_at0 ▸ hW.1 10
  have b_fk : (0 : Int) ≤ fk ∧ fk ≤ 6 := e_fk ▸ hW.1 16
  have b_op0 : (-2147483648 : Int) ≤ op0 ∧ op0 ≤ 2147483647 := e_op0 ▸ hW.1 15
  have b_nd : (0 : Int) ≤ nd ∧ nd ≤ 6999 := e_nd ▸ hW.1 31
  have z_tk0 := tz_f tk0
  have b_tk0 : (0 : Int) ≤ tk0 ∧ tk0 ≤ 5 := e_tk0 ▸ hW.1 11
  have b_li : (0 : Int) ≤ li ∧ li ≤ 3000 := e_li ▸ hW.1 3
  have b_kd : (0 : Int) ≤ kd ∧ kd ≤ 14 := e_kd ▸ hW.2 7 _
  have b_nu : (0 : Int) ≤ nu ∧ nu ≤ 24 := e_nu ▸ hW.2 12 _
  have b_mp : (0 : Int) ≤ mp ∧ mp ≤ 6 := e_mp ▸ hW.2 30 _
  have b_pp : (0 : Int) ≤ pp ∧ pp ≤ 202 := e_pp ▸ hW.2 29 _
  have pq := PQ_at i_PQ p_8 (e_kd.trans (by omega)) e_nu e_mp e_pp
  intro m
  induction m using Nat.strongRecOn with
  | ind m ih88 =>
    intro L Gx Ax n many last kk at1 tk1 fk1 nd1 op1 ec1 hm gL_0 gL_1 gL_2 gL_3 gL_4 gL_5 hWx hFx hPx ex_at1 ex_tk1 ex_fk1 ex_nd1 ex_op1 ex_ec1 fx_9 rx_n rx_many rx_last rx_kk iv_0 iv_1 iv_2 iv_3 iv_4 iv_5 iv_6 iv_7 iv_8 iv_9 iv_10 iv_11 iv_12 iv_13 iv_14 iv_15 iv_16 iv_17 iv_18 iv_19 iv_20
    have b_at1 : (0 : Int) ≤ at1 ∧ at1 ≤ 3002 := ex_at1 ▸ hWx.1 10
    have z_tk1 := tz_f tk1
    have b_tk1 : (0 : Int) ≤ tk1 ∧ tk1 ≤ 5 := ex_tk1 ▸ hWx.1 11
    have b_fk1 : (0 : Int) ≤ fk1 ∧ fk1 ≤ 6 := ex_fk1 ▸ hWx.1 16
    have b_nd1 : (0 : Int) ≤ nd1 ∧ nd1 ≤ 6999 := ex_nd1 ▸ hWx.1 31
    have b_op1 : (-2147483648 : Int) ≤ op1 ∧ op1 ≤ 2147483647 := ex_op1 ▸ hWx.1 15
    refine jx_ld (pc' := 89) (l' := L) (st' := [.ref 66]) rfl (jl_aloadn gL_0) ?_
    refine jx_vr (pc' := 92) (as := []) (st := []) rfl rfl rfl rfl ⟨rfl, rfl, Nat.le_of_ble_eq_true rfl⟩ rfl rfl (c_bad (dd := d) (hd := by omega) (hW := hWx)  (fk := fk1) (e_fk := show Gx 16 = fk1 from (ex_fk1))    ) (fun o V' hq => ?_)
    obtain ⟨r106, rfl, rfl, b107, q108⟩ := hq
    refine .inr ⟨_, rfl, ?_⟩
    rcases q108 with ⟨rfl, a109⟩ | ⟨rfl, a110⟩
    · have _q : True := trivial
      exfalso
      omega
    · have _q : True := trivial
      refine jx_if_ne (pc' := 95) (tg := 233) rfl rfl rfl (by decide) (by decide) (fun h111 => ?_) (fun h111 => ?_)
      · have _q := h111
        exact absurd h111 (by omega)
      · have _q := h111
        refine jx_ld (pc' := 97) (l' := L) (st' := [.int (i32 (kk))]) rfl (jl_iload gL_5) ?_
        refine jx_ld (pc' := 98) (l' := L) (st' := [.int (i32 (many)), .int (i32 (kk))]) rfl (jl_iloadn gL_3) ?_
        refine jx_icmp_ge (pc' := 101) (tg := 233) rfl rfl rfl (Int.le_trans (by decide : (-2147483648 : Int) ≤ -2147483648) rx_kk.1) (Int.le_trans rx_kk.2 (by decide : (2147483647 : Int) ≤ 2147483647)) (Int.le_trans (by decide : (-2147483648 : Int) ≤ -2147483648) rx_many.1) (Int.le_trans rx_many.2 (by decide : (2147483647 : Int) ≤ 2147483647)) (fun h112 => ?_) (fun h112 => ?_)
        · have _q := h112
          refine jx_ld (pc' := 234) (l' := L) (st' := [.ref 66]) rfl (jl_aloadn gL_0) ?_
          refine jx_ld (pc' := 235) (l' := L) (st' := [.ref 66, .ref 66]) rfl (jl_aloadn gL_0) ?_
          refine jx_ar (pc' := 237) (st' := [.int (i32 (41)), .ref 66, .ref 66]) rfl rfl rfl rfl ?_
          have b113 : (-2147483648 : Int) ≤ Gx 13 ∧ Gx 13 ≤ 2147483647 := hWx.1 13
          refine jx_vr (pc' := 240) (as := [.int (i32 (41))]) (st := [.ref 66]) rfl rfl rfl rfl ⟨rfl, rfl, Nat.le_of_ble_eq_true rfl⟩ rfl rfl (c_is (dd := d) (hd := by omega) (hW := hWx) (k := 41) (tk := tk1) (e_tk := show Gx 11 = tk1 from (ex_tk1)) (tn := Gx 13) (e_tn := show Gx 13 = Gx 13 from rfl)  (h_k := ⟨(by decide), (by decide)⟩)  ) (fun o V' hq => ?_)
          obtain ⟨r114, rfl, rfl, b115, q116⟩ := hq
          refine .inr ⟨_, rfl, ?_⟩
          rcases q116 with ⟨rfl, a117, a118, a119⟩ | rfl
          · have _q : True := trivial
            refine jx_vr (pc' := 243) (as := [.int (i32 (1))]) (st := []) rfl rfl rfl rfl ⟨rfl, rfl, Nat.le_of_ble_eq_true rfl⟩ rfl rfl (c_need (dd := d) (hd := by omega) (hW := hWx) (g := 1) (ln := ln) (e_ln := show Gx 9 = ln from (fx_9)) (le := le) (e_le := show Ax 4 (ln).toNat = le from (congrFun (hFx.2 4 rfl) _).trans (e_le)) (at0 := at1) (e_at0 := show Gx 10 = at1 from (ex_at1)) (fk := fk1) (e_fk := show Gx 16 = fk1 from (ex_fk1)) (tk0 := tk1) (e_tk0 := show Gx 11 = tk1 from (ex_tk1))  (h_g := ⟨(by decide), (by decide)⟩)  (p_0 := by omega)) (fun o V' hq => ?_)
            obtain ⟨G120, A121, at2_122, tk2_123, fk2_124, rfl, rfl, hW125, hF126, e127, e128, e129, p130, p131, q132⟩ := hq
            have hF133 := Fr_tr hFx hF126 (Fr_sub (by decide)) (Fr_sub (by decide))
            have hP134 := Pf_f hPx hF126 (by decide)
            have sf135 : ND A121 (n) (25) (nu) (0) (0) (0) (Ax 21 (n).toNat) (0) := ND_ag (by omega) (Ag_fr hF126 (by decide)) iv_15
            have sf136 : CA A121 Vs sb (n) (last) (kk) (pp) (n + 1) (nd1) := CA_ag (by omega) (Sg_fr hF126 (by decide)) (Ag_fr hF126 (by decide)) (congrFun (hF126.2 21 rfl) _) iv_16
            have ec137 : ecn A121 (G120 31) = ec1 := (ecn_f (hF126.2 15 rfl) (hF126.1 31 rfl)).trans ex_ec1
            have bat2_122 : (0 : Int) ≤ at2_122 ∧ at2_122 ≤ 3002 := e127 ▸ hW125.1 10
            have ztk2_123 := tz_b tk2_123
            have btk2_123 : (0 : Int) ≤ tk2_123 ∧ tk2_123 ≤ 5 := e128 ▸ hW125.1 11
            have bfk2_124 : (0 : Int) ≤ fk2_124 ∧ fk2_124 ≤ 6 := e129 ▸ hW125.1 16
            refine .inl ⟨rfl, ?_⟩
            rcases q132 with ⟨a138, a139, a140, a141⟩ | ⟨a142, a143, a144, a145⟩
            · have _q : True := trivial
              refine jx_ld (pc' := 244) (l' := L) (st' := [.ref 66]) rfl (jl_aloadn gL_0) ?_
              refine jx_ar (pc' := 245) (st' := [.ref 66, .ref 66]) rfl rfl rfl rfl ?_
              refine jr_get (pc' := 248) (i := 15) (v := .int (i32 (op1))) rfl rfl (by decide) (rFv_eq (by decide) (show G120 15 = op1 from ((hF126.1 15 rfl).trans (ex_op1)))) rfl ?_
              refine jx_ar (pc' := 249) (st' := [.int (i32 (1)), .int (i32 (op1)), .ref 66]) rfl rfl rfl rfl ?_
              refine jx_sub (pc' := 250) rfl rfl ?_
              refine jr_put (pc' := 253) (i := 15) (z := (op1 - 1)) rfl rfl (by decide) rfl rfl rfl rfl rfl rfl ?_
              have hW146 : Wk (uG G120 15 ((op1 - 1))) A121 := Wk_g hW125 (show (-2147483648 : Int) ≤ (op1 - 1) by omega) (show (op1 - 1) ≤ (2147483647 : Int) by omega)
              have hF147 := Fr_g (z := (op1 - 1)) (i := 15) hF133 (by decide)
              have ec148 : ecn A121 ((uG G120 15 ((op1 - 1))) 31) = ec1 := ec137
              refine jx_ld (pc' := 254) (l' := L) (st' := [.ref 66]) rfl (jl_aloadn gL_0) ?_
              refine jx_vr (pc' := 257) (as := []) (st := []) rfl rfl rfl rfl ⟨rfl, rfl, Nat.le_of_ble_eq_true rfl⟩ rfl rfl (c_endLine (dd := d) (hd := by omega) (hW := hW146)  (ln := ln) (e_ln := show (uG G120 15 ((op1 - 1))) 9 = ln from ((hF126.1 9 rfl).trans (fx_9))) (li := li) (e_li := show (uG G120 15 ((op1 - 1))) 3 = li from ((hF126.1 3 rfl).trans ((hFx.1 3 rfl).trans (e_li)))) (fk := fk2_124) (e_fk := show (uG G120 15 ((op1 - 1))) 16 = fk2_124 from (e129)) (tk0 := tk2_123) (e_tk0 := show (uG G120 15 ((op1 - 1))) 11 = tk2_123 from (e128))    (p_0 := by omega)) (fun o V' hq => ?_)
              obtain ⟨G149, A150, ln2_151, fk2_152, rfl, rfl, hW153, hF154, e155, e156, q157⟩ := hq
              have hF158 := Fr_tr hF147 hF154 (Fr_sub (by decide)) (Fr_sub (by decide))
              have hP159 := Pf_f hP134 hF154 (by decide)
              have sf160 : ND A150 (n) (25) (nu) (0) (0) (0) (Ax 21 (n).toNat) (0) := ND_ag (by omega) (Ag_fr hF154 (by decide)) sf135
              have sf161 : CA A150 Vs sb (n) (last) (kk) (pp) (n + 1) (nd1) := CA_ag (by omega) (Sg_fr hF154 (by decide)) (Ag_fr hF154 (by decide)) (congrFun (hF154.2 21 rfl) _) sf136
              have ec162 : ecn A150 (G149 31) = ec1 := (ecn_f (hF154.2 15 rfl) (hF154.1 31 rfl)).trans ec148
              have bln2_151 : (0 : Int) ≤ ln2_151 ∧ ln2_151 ≤ 3000 := e155 ▸ hW153.1 9
              have bfk2_152 : (0 : Int) ≤ fk2_152 ∧ fk2_152 ≤ 6 := e156 ▸ hW153.1 16
              refine .inl ⟨rfl, ?_⟩
              rcases q157 with ⟨a163, a164, a165, a166, a167⟩ | ⟨a168, a169⟩
              · have _q : True := trivial
                exfalso
                omega
              · have _q : True := trivial
                refine jx_ld (pc' := 258) (l' := L) (st' := [.int (i32 (n))]) rfl (jl_iloadn gL_2) ?_
                refine jx_rt (v := some (.int (i32 (n)))) rfl rfl rfl rfl rfl rfl ?_
                exact ⟨_, _, _, at2_122, fk2_152, nd1, ln2_151, ec1, rfl, rfl, hW153, hF158, hP159, by omega, ((hF154.1 10 rfl).trans (e127)), (e156), ((hF154.1 31 rfl).trans ((hF126.1 31 rfl).trans (ex_nd1))), (e155), ec162, by omega, by omega, by omega, by omega, by omega, by first | exact Or.inl (⟨by omega, by omega, by omega⟩)⟩
            · have _q : True := trivial
              refine jx_ld (pc' := 244) (l' := L) (st' := [.ref 66]) rfl (jl_aloadn gL_0) ?_
              refine jx_ar (pc' := 245) (st' := [.ref 66, .ref 66]) rfl rfl rfl rfl ?_
              refine jr_get (pc' := 248) (i := 15) (v := .int (i32 (op1))) rfl rfl (by decide) (rFv_eq (by decide) (show G120 15 = op1 from ((hF126.1 15 rfl).trans (ex_op1)))) rfl ?_
              refine jx_ar (pc' := 249) (st' := [.int (i32 (1)), .int (i32 (op1)), .ref 66]) rfl rfl rfl rfl ?_
              refine jx_sub (pc' := 250) rfl rfl ?_
              refine jr_put (pc' := 253) (i := 15) (z := (op1 - 1)) rfl rfl (by decide) rfl rfl rfl rfl rfl rfl ?_
              have hW170 : Wk (uG G120 15 ((op1 - 1))) A121 := Wk_g hW125 (show (-2147483648 : Int) ≤ (op1 - 1) by omega) (show (op1 - 1) ≤ (2147483647 : Int) by omega)
              have hF171 := Fr_g (z := (op1 - 1)) (i := 15) hF133 (by decide)
              have ec172 : ecn A121 ((uG G120 15 ((op1 - 1))) 31) = ec1 := ec137
              refine jx_ld (pc' := 254) (l' := L) (st' := [.ref 66]) rfl (jl_aloadn gL_0) ?_
              refine jx_vr (pc' := 257) (as := []) (st := []) rfl rfl rfl rfl ⟨rfl, rfl, Nat.le_of_ble_eq_true rfl⟩ rfl rfl (c_endLine (dd := d) (hd := by omega) (hW := hW170)  (ln := ln) (e_ln := show (uG G120 15 ((op1 - 1))) 9 = ln from ((hF126.1 9 rfl).trans (fx_9))) (li := li) (e_li := show (uG G120 15 ((op1 - 1))) 3 = li from ((hF126.1 3 rfl).trans ((hFx.1 3 rfl).trans (e_li)))) (fk := fk2_124) (e_fk := show (uG G120 15 ((op1 - 1))) 16 = fk2_124 from (e129)) (tk0 := tk2_123) (e_tk0 := show (uG G120 15 ((op1 - 1))) 11 = tk2_123 from (e128))    (p_0 := by omega)) (fun o V' hq => ?_)
              obtain ⟨G173, A174, ln2_175, fk2_176, rfl, rfl, hW177, hF178, e179, e180, q181⟩ := hq
              have hF182 := Fr_tr hF171 hF178 (Fr_sub (by decide)) (Fr_sub (by decide))
              have hP183 := Pf_f hP134 hF178 (by decide)
              have sf184 : ND A174 (n) (25) (nu) (0) (0) (0) (Ax 21 (n).toNat) (0) := ND_ag (by omega) (Ag_fr hF178 (by decide)) sf135
              have sf185 : CA A174 Vs sb (n) (last) (kk) (pp) (n + 1) (nd1) := CA_ag (by omega) (Sg_fr hF178 (by decide)) (Ag_fr hF178 (by decide)) (congrFun (hF178.2 21 rfl) _) sf136
              have ec186 : ecn A174 (G173 31) = ec1 := (ecn_f (hF178.2 15 rfl) (hF178.1 31 rfl)).trans ec172
              have bln2_175 : (0 : Int) ≤ ln2_175 ∧ ln2_175 ≤ 3000 := e179 ▸ hW177.1 9
              have bfk2_176 : (0 : Int) ≤ fk2_176 ∧ fk2_176 ≤ 6 := e180 ▸ hW177.1 16
              refine .inl ⟨rfl, ?_⟩
              rcases q181 with ⟨a187, a188, a189, a190, a191⟩ | ⟨a192, a193⟩
              · have _q : True := trivial
                refine jx_ld (pc' := 258) (l' := L) (st' := [.int (i32 (n))]) rfl (jl_iloadn gL_2) ?_
                refine jx_rt (v := some (.int (i32 (n)))) rfl rfl rfl rfl rfl rfl ?_
                exact ⟨_, _, _, at2_122, fk2_176, nd1, ln2_175, ec1, rfl, rfl, hW177, hF182, hP183, by omega, ((hF178.1 10 rfl).trans (e127)), (e180), ((hF178.1 31 rfl).trans ((hF126.1 31 rfl).trans (ex_nd1))), (e179), ec186, by omega, by omega, by omega, by omega, by omega, by first | exact Or.inr ((⟨by omega, by omega, by omega, by omega, by omega, (wL_call (last := last) sf184 (by omega) (by omega) (by omega) ((show A174 30 (nu).toNat = mp from (congrFun ((hF178.2 30 rfl).trans ((hF126.2 30 rfl).trans (hFx.2 30 rfl))) _).trans (e_mp)).trans (by omega : mp = kk)) ((show A174 29 (nu).toNat = pp from (congrFun ((hF178.2 29 rfl).trans ((hF126.2 29 rfl).trans (hFx.2 29 rfl))) _).trans (e_pp)).trans (by omega : pp = pp)) (CA_eq sf185 (by omega) (by omega) (by omega) (by omega) (by omega))), (NX_nd sf184), by omega, by omega⟩))⟩
              · have _q : True := trivial
                refine jx_ld (pc' := 258) (l' := L) (st' := [.int (i32 (n))]) rfl (jl_iloadn gL_2) ?_
                refine jx_rt (v := some (.int (i32 (n)))) rfl rfl rfl rfl rfl rfl ?_
                exact ⟨_, _, _, at2_122, fk2_176, nd1, ln2_175, ec1, rfl, rfl, hW177, hF182, hP183, by omega, ((hF178.1 10 rfl).trans (e127)), (e180), ((hF178.1 31 rfl).trans ((hF126.1 31 rfl).trans (ex_nd1))), (e179), ec186, by omega, by omega, by omega, by omega, by omega, by first | exact Or.inl (⟨by omega, by omega, by omega⟩)⟩
          · have _q : True := trivial
            refine jx_vr (pc' := 243) (as := [.int (i32 (0))]) (st := []) rfl rfl rfl rfl ⟨rfl, rfl, Nat.le_of_ble_eq_true rfl⟩ rfl rfl (c_need (dd := d) (hd := by omega) (hW := hWx) (g := 0) (ln := ln) (e_ln := show Gx 9 = ln from (fx_9)) (le := le) (e_le := show Ax 4 (ln).toNat = le from (congrFun (hFx.2 4 rfl) _).trans (e_le)) (at0 := at1) (e_at0 := show Gx 10 = at1 from (ex_at1)) (fk := fk1) (e_fk := show Gx 16 = fk1 from (ex_fk1)) (tk0 := tk1) (e_tk0 := show Gx 11 = tk1 from (ex_tk1))  (h_g := ⟨(by decide), (by decide)⟩)  (p_0 := by omega)) (fun o V' hq => ?_)
            obtain ⟨G194, A195, at2_196, tk2_197, fk2_198, rfl, rfl, hW199, hF200, e201, e202, e203, p204, p205, q206⟩ := hq
            have hF207 := Fr_tr hFx hF200 (Fr_sub (by decide)) (Fr_sub (by decide))
            have hP208 := Pf_f hPx hF200 (by decide)
            have sf209 : ND A195 (n) (25) (nu) (0) (0) (0) (Ax 21 (n).toNat) (0) := ND_ag (by omega) (Ag_fr hF200 (by decide)) iv_15
            have sf210 : CA A195 Vs sb (n) (last) (kk) (pp) (n + 1) (nd1) := CA_ag (by omega) (Sg_fr hF200 (by decide)) (Ag_fr hF200 (by decide)) (congrFun (hF200.2 21 rfl) _) iv_16
            have ec211 : ecn A195 (G194 31) = ec1 := (ecn_f (hF200.2 15 rfl) (hF200.1 31 rfl)).trans ex_ec1
            have bat2_196 : (0 : Int) ≤ at2_196 ∧ at2_196 ≤ 3002 := e201 ▸ hW199.1 10
            have ztk2_197 := tz_b tk2_197
            have btk2_197 : (0 : Int) ≤ tk2_197 ∧ tk2_197 ≤ 5 := e202 ▸ hW199.1 11
            have bfk2_198 : (0 : Int) ≤ fk2_198 ∧ fk2_198 ≤ 6 := e203 ▸ hW199.1 16
            refine .inl ⟨rfl, ?_⟩
            rcases q206 with ⟨a212, a213, a214, a215⟩ | ⟨a216, a217, a218, a219⟩
            · have _q : True := trivial
              refine jx_ld (pc' := 244) (l' := L) (st' := [.ref 66]) rfl (jl_aloadn gL_0) ?_
              refine jx_ar (pc' := 245) (st' := [.ref 66, .ref 66]) rfl rfl rfl rfl ?_
              refine jr_get (pc' := 248) (i := 15) (v := .int (i32 (op1))) rfl rfl (by decide) (rFv_eq (by decide) (show G194 15 = op1 from ((hF200.1 15 rfl).trans (ex_op1)))) rfl ?_
              refine jx_ar (pc' := 249) (st' := [.int (i32 (1)), .int (i32 (op1)), .ref 66]) rfl rfl rfl rfl ?_
              refine jx_sub (pc' := 250) rfl rfl ?_
              refine jr_put (pc' := 253) (i := 15) (z := (op1 - 1)) rfl rfl (by decide) rfl rfl rfl rfl rfl rfl ?_
              have hW220 : Wk (uG G194 15 ((op1 - 1))) A195 := Wk_g hW199 (show (-2147483648 : Int) ≤ (op1 - 1) by omega) (show (op1 - 1) ≤ (2147483647 : Int) by omega)
              have hF221 := Fr_g (z := (op1 - 1)) (i := 15) hF207 (by decide)
              have ec222 : ecn A195 ((uG G194 15 ((op1 - 1))) 31) = ec1 := ec211
              refine jx_ld (pc' := 254) (l' := L) (st' := [.ref 66]) rfl (jl_aloadn gL_0) ?_
              refine jx_vr (pc' := 257) (as := []) (st := []) rfl rfl rfl rfl ⟨rfl, rfl, Nat.le_of_ble_eq_true rfl⟩ rfl rfl (c_endLine (dd := d) (hd := by omega) (hW := hW220)  (ln := ln) (e_ln := show (uG G194 15 ((op1 - 1))) 9 = ln from ((hF200.1 9 rfl).trans (fx_9))) (li := li) (e_li := show (uG G194 15 ((op1 - 1))) 3 = li from ((hF200.1 3 rfl).trans ((hFx.1 3 rfl).trans (e_li)))) (fk := fk2_198) (e_fk := show (uG G194 15 ((op1 - 1))) 16 = fk2_198 from (e203)) (tk0 := tk2_197) (e_tk0 := show (uG G194 15 ((op1 - 1))) 11 = tk2_197 from (e202))    (p_0 := by omega)) (fun o V' hq => ?_)
              obtain ⟨G223, A224, ln2_225, fk2_226, rfl, rfl, hW227, hF228, e229, e230, q231⟩ := hq
              have hF232 := Fr_tr hF221 hF228 (Fr_sub (by decide)) (Fr_sub (by decide))
              have hP233 := Pf_f hP208 hF228 (by decide)
              have sf234 : ND A224 (n) (25) (nu) (0) (0) (0) (Ax 21 (n).toNat) (0) := ND_ag (by omega) (Ag_fr hF228 (by decide)) sf209
              have sf235 : CA A224 Vs sb (n) (last) (kk) (pp) (n + 1) (nd1) := CA_ag (by omega) (Sg_fr hF228 (by decide)) (Ag_fr hF228 (by decide)) (congrFun (hF228.2 21 rfl) _) sf210
              have ec236 : ecn A224 (G223 31) = ec1 := (ecn_f (hF228.2 15 rfl) (hF228.1 31 rfl)).trans ec222
              have bln2_225 : (0 : Int) ≤ ln2_225 ∧ ln2_225 ≤ 3000 := e229 ▸ hW227.1 9
              have bfk2_226 : (0 : Int) ≤ fk2_226 ∧ fk2_226 ≤ 6 := e230 ▸ hW227.1 16
              refine .inl ⟨rfl, ?_⟩
              rcases q231 with ⟨a237, a238, a239, a240, a241⟩ | ⟨a242, a243⟩
              · have _q : True := trivial
                exfalso
                omega
              · have _q : True := trivial
                refine jx_ld (pc' := 258) (l' := L) (st' := [.int (i32 (n))]) rfl (jl_iloadn gL_2) ?_
                refine jx_rt (v := some (.int (i32 (n)))) rfl rfl rfl rfl rfl rfl ?_
                exact ⟨_, _, _, at2_196, fk2_226, nd1, ln2_225, ec1, rfl, rfl, hW227, hF232, hP233, by omega, ((hF228.1 10 rfl).trans (e201)), (e230), ((hF228.1 31 rfl).trans ((hF200.1 31 rfl).trans (ex_nd1))), (e229), ec236, by omega, by omega, by omega, by omega, by omega, by first | exact Or.inl (⟨by omega, by omega, by omega⟩)⟩
            · have _q : True := trivial
              exfalso
              omega
        · have _q := h112
          have pk := PQ_k i_PQ p_8 (e_kd.trans (by omega)) e_nu e_mp e_pp (show 0 ≤ kk by omega) (by omega)
          refine jx_ld (pc' := 102) (l' := L) (st' := [.ref 66]) rfl (jl_aloadn gL_0) ?_
          refine jx_ld (pc' := 103) (l' := L) (st' := [.ref 66, .ref 66]) rfl (jl_aloadn gL_0) ?_
          refine jr_get (pc' := 106) (i := 47) (v := .ref 96) rfl rfl (by decide) rfl rfl ?_
          refine jx_ld (pc' := 107) (l' := L) (st' := [.ref 66, .ref 96, .ref 66]) rfl (jl_aloadn gL_0) ?_
          refine jr_get (pc' := 110) (i := 26) (v := .ref 79) rfl rfl (by decide) rfl rfl ?_
          refine jx_ld (pc' := 111) (l' := L) (st' := [.int (i32 (s)), .ref 79, .ref 96, .ref 66]) rfl (jl_iloadn gL_1) ?_
          refine jr_ldv (pc' := 112) (i := 12) (m := 260) (z := s) (y := nu) rfl (by decide) rfl (by decide) (by omega) (by omega) rfl (show Ax 12 (s).toNat = nu from (congrFun (hFx.2 12 rfl) _).trans (e_nu)) ?_
          refine jr_ldv (pc' := 113) (i := 29) (m := 25) (z := nu) (y := pp) rfl (by decide) rfl (by decide) (Int.le_trans (by decide : (0 : Int) ≤ 0) b_nu.1) (Int.lt_of_le_of_lt b_nu.2 (by decide : (24 : Int) < ((25 : Nat) : Int))) rfl (show Ax 29 (nu).toNat = pp from (congrFun (hFx.2 29 rfl) _).trans (e_pp)) ?_
          refine jx_ld (pc' := 115) (l' := L) (st' := [.int (i32 (kk)), .int (i32 (pp)), .ref 66]) rfl (jl_iload gL_5) ?_
          refine jx_add (pc' := 116) rfl rfl ?_
          have b244 : (0 : Int) ≤ A 7 ((pp + kk)).toNat ∧ A 7 ((pp + kk)).toNat ≤ 14 := hW.2 7 _
          have b245 : (-2147483648 : Int) ≤ A 8 ((pp + kk)).toNat ∧ A 8 ((pp + kk)).toNat ≤ 2147483647 := hW.2 8 _
          refine jx_vr (pc' := 119) (as := [.int (i32 ((pp + kk)))]) (st := []) rfl rfl rfl rfl ⟨rfl, rfl, Nat.le_of_ble_eq_true rfl⟩ rfl rfl (c_readArgument_w (dd := d) (hd := by omega) (hW := hWx) (pa := (pp + kk)) (ln := ln) (e_ln := show Gx 9 = ln from (fx_9)) (le := le) (e_le := show Ax 4 (ln).toNat = le from (congrFun (hFx.2 4 rfl) _).trans (e_le)) (at0 := at1) (e_at0 := show Gx 10 = at1 from (ex_at1)) (fk := fk1) (e_fk := show Gx 16 = fk1 from (ex_fk1)) (op0 := op1) (e_op0 := show Gx 15 = op1 from (ex_op1)) (nd := nd1) (e_nd := show Gx 31 = nd1 from (ex_nd1)) (tk0 := tk1) (e_tk0 := show Gx 11 = tk1 from (ex_tk1)) (kp := A 7 ((pp + kk)).toNat) (e_kp := show Ax 7 ((pp + kk)).toNat = A 7 ((pp + kk)).toNat from (congrFun (hFx.2 7 rfl) _)) (zp := A 8 ((pp + kk)).toNat) (e_zp := show Ax 8 ((pp + kk)).toNat = A 8 ((pp + kk)).toNat from (congrFun (hFx.2 8 rfl) _)) (ec := ec1) (e_ec := show ecn Ax (Gx 31) = ec1 from ex_ec1) (i_SV := (SV_ext ((hFx.1 29 rfl)) ((hFx.2 14 rfl)) i_SV)) (h_pa := ⟨(by omega), (by omega)⟩)  (p_0 := by omega) (p_1 := by omega) (p_2 := by omega) (p_3 := by omega) (p_4 := by omega) (p_5 := by omega) (p_6 := by omega) (p_7 := by omega) (p_8 := by omega) (p_9 := by omega)) (fun o V' hq => ?_)
          obtain ⟨G246, A247, r248, at2_249, fk2_250, op2_251, nd2_252, tk2_253, ec2_254, rfl, rfl, hW255, hF256, hQ257, b258, e259, e260, e261, e262, e263, e264, p265, p266, p267, p268, p269, p270, q271⟩ := hq
          have hF272 := Fr_tr hFx hF256 (Fr_sub (by decide)) (Fr_sub (by decide))
          have hP273 := Pf_tr hPx hQ257 (by omega)
          have sf274 : ND A247 (n) (25) (nu) (0) (0) (0) (Ax 21 (n).toNat) (0) := ND_ag (by omega) (Ag_pf hQ257 (by omega)) iv_15
          have sf275 : CA A247 Vs sb (n) (last) (kk) (pp) (n + 1) (nd1) := CA_ag (by omega) (Sg_fr hF256 (by decide)) (Ag_pf hQ257 (by omega)) (hQ257 21 _ rfl (by omega)) iv_16
          have bat2_249 : (0 : Int) ≤ at2_249 ∧ at2_249 ≤ 3002 := e259 ▸ hW255.1 10
          have bfk2_250 : (0 : Int) ≤ fk2_250 ∧ fk2_250 ≤ 6 := e260 ▸ hW255.1 16
          have bop2_251 : (-2147483648 : Int) ≤ op2_251 ∧ op2_251 ≤ 2147483647 := e261 ▸ hW255.1 15
          have bnd2_252 : (0 : Int) ≤ nd2_252 ∧ nd2_252 ≤ 6999 := e262 ▸ hW255.1 31
          have ztk2_253 := tz_b tk2_253
          have btk2_253 : (0 : Int) ≤ tk2_253 ∧ tk2_253 ≤ 5 := e263 ▸ hW255.1 11
          refine .inr ⟨_, rfl, ?_⟩
          rcases q271 with ⟨a276, a277, a278⟩ | ⟨a279, a280, a281, a282, a283, a284, a285, a286, a287⟩
          · have _q : True := trivial
            refine jx_ld (pc' := 121) (l' := jSto1 L 6 (.int (i32 (r248)))) (st' := []) rfl rfl ?_
            obtain ⟨L288, eL288⟩ : ∃ q, q = jSto1 L 6 (.int (i32 (r248))) := ⟨_, rfl⟩
            rw [← eL288]
            have gL288_0 : jGet L288 0 = some (.ref 66) := eL288 ▸ jg_ne (by decide) gL_0 rfl
            have gL288_1 : jGet L288 1 = some (.int (i32 (s))) := eL288 ▸ jg_ne (by decide) gL_1 rfl
            have gL288_2 : jGet L288 2 = some (.int (i32 (n))) := eL288 ▸ jg_ne (by decide) gL_2 rfl
            have gL288_3 : jGet L288 3 = some (.int (i32 (many))) := eL288 ▸ jg_ne (by decide) gL_3 rfl
            have gL288_4 : jGet L288 4 = some (.int (i32 (last))) := eL288 ▸ jg_ne (by decide) gL_4 rfl
            have gL288_5 : jGet L288 5 = some (.int (i32 (kk))) := eL288 ▸ jg_ne (by decide) gL_5 rfl
            have gL288_6 : jGet L288 6 = some (.int (i32 (r248))) := eL288 ▸ jg_eq
            refine jx_ld (pc' := 122) (l' := L288) (st' := [.ref 66]) rfl (jl_aloadn gL288_0) ?_
            refine jx_vr (pc' := 125) (as := []) (st := []) rfl rfl rfl rfl ⟨rfl, rfl, Nat.le_of_ble_eq_true rfl⟩ rfl rfl (c_bad (dd := d) (hd := by omega) (hW := hW255)  (fk := fk2_250) (e_fk := show G246 16 = fk2_250 from (e260))    ) (fun o V' hq => ?_)
            obtain ⟨r289, rfl, rfl, b290, q291⟩ := hq
            refine .inr ⟨_, rfl, ?_⟩
            rcases q291 with ⟨rfl, a292⟩ | ⟨rfl, a293⟩
            · have _q : True := trivial
              refine jx_if_eq (pc' := 128) (tg := 130) rfl rfl rfl (by decide) (by decide) (fun h294 => ?_) (fun h294 => ?_)
              · have _q := h294
                exact absurd h294 (by omega)
              · have _q := h294
                refine jx_ar (pc' := 129) (st' := [.int (i32 (0))]) rfl rfl rfl rfl ?_
                refine jx_rt (v := some (.int (i32 (0)))) rfl rfl rfl rfl rfl rfl ?_
                exact ⟨_, _, _, at2_249, fk2_250, nd2_252, ln, ec2_254, rfl, rfl, hW255, hF272, hP273, by omega, (e259), (e260), (e262), ((hF256.1 9 rfl).trans (fx_9)), e264, by omega, by omega, by omega, by omega, by omega, by first | exact Or.inl (⟨by omega, by omega, by omega⟩)⟩
            · have _q : True := trivial
              exfalso
              omega
          · have _q : True := trivial
            refine jx_ld (pc' := 121) (l' := jSto1 L 6 (.int (i32 (r248)))) (st' := []) rfl rfl ?_
            obtain ⟨L295, eL295⟩ : ∃ q, q = jSto1 L 6 (.int (i32 (r248))) := ⟨_, rfl⟩
            rw [← eL295]
            have gL295_0 : jGet L295 0 = some (.ref 66) := eL295 ▸ jg_ne (by decide) gL_0 rfl
            have gL295_1 : jGet L295 1 = some (.int (i32 (s))) := eL295 ▸ jg_ne (by decide) gL_1 rfl
            have gL295_2 : jGet L295 2 = some (.int (i32 (n))) := eL295 ▸ jg_ne (by decide) gL_2 rfl
            have gL295_3 : jGet L295 3 = some (.int (i32 (many))) := eL295 ▸ jg_ne (by decide) gL_3 rfl
            have gL295_4 : jGet L295 4 = some (.int (i32 (last))) := eL295 ▸ jg_ne (by decide) gL_4 rfl
            have gL295_5 : jGet L295 5 = some (.int (i32 (kk))) := eL295 ▸ jg_ne (by decide) gL_5 rfl
            have gL295_6 : jGet L295 6 = some (.int (i32 (r248))) := eL295 ▸ jg_eq
            refine jx_ld (pc' := 122) (l' := L295) (st' := [.ref 66]) rfl (jl_aloadn gL295_0) ?_
            refine jx_vr (pc' := 125) (as := []) (st := []) rfl rfl rfl rfl ⟨rfl, rfl, Nat.le_of_ble_eq_true rfl⟩ rfl rfl (c_bad (dd := d) (hd := by omega) (hW := hW255)  (fk := fk2_250) (e_fk := show G246 16 = fk2_250 from (e260))    ) (fun o V' hq => ?_)
            obtain ⟨r296, rfl, rfl, b297, q298⟩ := hq
            refine .inr ⟨_, rfl, ?_⟩
            rcases q298 with ⟨rfl, a299⟩ | ⟨rfl, a300⟩
            · have _q : True := trivial
              exfalso
              omega
            · have _q : True := trivial
              refine jx_if_eq (pc' := 128) (tg := 130) rfl rfl rfl (by decide) (by decide) (fun h301 => ?_) (fun h301 => ?_)
              · have _q := h301
                refine jx_ld (pc' := 132) (l' := L295) (st' := [.int (i32 (last))]) rfl (jl_iload gL295_4) ?_
                refine jx_if_ne (pc' := 135) (tg := 146) rfl rfl rfl (Int.le_trans (by decide : (-2147483648 : Int) ≤ -2147483648) rx_last.1) (Int.le_trans rx_last.2 (by decide : (2147483647 : Int) ≤ 2147483647)) (fun h302 => ?_) (fun h302 => ?_)
                · have _q := h302
                  refine jx_ld (pc' := 147) (l' := L295) (st' := [.ref 66]) rfl (jl_aloadn gL295_0) ?_
                  refine jr_get (pc' := 150) (i := 39) (v := .ref 89) rfl rfl (by decide) rfl rfl ?_
                  refine jx_ld (pc' := 152) (l' := L295) (st' := [.int (i32 (last)), .ref 89]) rfl (jl_iload gL295_4) ?_
                  refine jx_ld (pc' := 154) (l' := L295) (st' := [.int (i32 (r248)), .int (i32 (last)), .ref 89]) rfl (jl_iload gL295_6) ?_
                  refine jr_st (pc' := 155) (i := 22) (m := 7000) (z := last) (y := r248) rfl (by decide) rfl (by decide) (by omega) (by omega) rfl ?_
                  have hW304 : Wk G246 (uA A247 22 (last).toNat (r248)) := Wk_a hW255 (show (-2147483648 : Int) ≤ r248 by omega) (show r248 ≤ (2147483647 : Int) by omega)
                  have hF305 := Fr_a (z := r248) (k := 22) (n := (last).toNat) hF272 (by decide)
                  obtain ⟨A303, eA303⟩ : ∃ q, q = uA A247 22 (last).toNat (r248) := ⟨_, rfl⟩
                  rw [← eA303]
                  rw [← eA303] at hW304 hF305
                  have q306 : A303 22 (last).toNat = r248 := by rw [eA303]; exact uA_eq
                  have hP307 : Pf nd A A303 := eA303 ▸ Pf_a hP273 (z := last) (by omega) (by omega)
                  have sf308 : ND A303 (n) (25) (nu) (0) (0) (0) (Ax 21 (n).toNat) (0) := ND_ag (by omega) (Ag_st eA303 (by omega) (by omega)) sf274
                  have sf309 : CA A303 Vs sb (n) (r248) ((kk + 1)) (pp) (n + 1) (nd2_252) := CA_two eA303 (by omega) (by omega) (by omega) a284 a285 sf275
                  have sf310 : wA A303 Vs sb (pp + kk) (r248) (nd1) (nd2_252) := wA_ag (by omega) (Sg_ne eA303 rfl) (Ax_ag (Ag_st eA303 (by omega) (by omega))) a284
                  have sf311 : NX A303 (r248) := NX_ag (by omega) (Ag_st eA303 (by omega) (by omega)) a285
                  have ec312 : ecn A303 (G246 31) = ec2_254 := (ecn_e ((congrFun eA303 15).trans (uA_ne (by decide)))).trans e264
                  refine jx_ld (pc' := 157) (l' := L295) (st' := [.int (i32 (r248))]) rfl (jl_iload gL295_6) ?_
                  refine jx_ld (pc' := 159) (l' := jSto1 L295 4 (.int (i32 (r248)))) (st' := []) rfl rfl ?_
                  obtain ⟨L313, eL313⟩ : ∃ q, q = jSto1 L295 4 (.int (i32 (r248))) := ⟨_, rfl⟩
                  rw [← eL313]
                  have gL313_0 : jGet L313 0 = some (.ref 66) := eL313 ▸ jg_ne (by decide) gL295_0 rfl
                  have gL313_1 : jGet L313 1 = some (.int (i32 (s))) := eL313 ▸ jg_ne (by decide) gL295_1 rfl
                  have gL313_2 : jGet L313 2 = some (.int (i32 (n))) := eL313 ▸ jg_ne (by decide) gL295_2 rfl
                  have gL313_3 : jGet L313 3 = some (.int (i32 (many))) := eL313 ▸ jg_ne (by decide) gL295_3 rfl
                  have gL313_5 : jGet L313 5 = some (.int (i32 (kk))) := eL313 ▸ jg_ne (by decide) gL295_5 rfl
                  have gL313_6 : jGet L313 6 = some (.int (i32 (r248))) := eL313 ▸ jg_ne (by decide) gL295_6 rfl
                  have gL313_4 : jGet L313 4 = some (.int (i32 (r248))) := eL313 ▸ jg_eq
                  refine jx_inc (pc' := 162) (l' := jSto1 L313 5 (.int (i32 ((kk + (1)))))) (x := kk) rfl gL313_5 (by decide) rfl rfl ?_
                  obtain ⟨L314, eL314⟩ : ∃ q, q = jSto1 L313 5 (.int (i32 ((kk + (1))))) := ⟨_, rfl⟩
                  rw [← eL314]
                  have gL314_0 : jGet L314 0 = some (.ref 66) := eL314 ▸ jg_ne (by decide) gL313_0 rfl
                  have gL314_1 : jGet L314 1 = some (.int (i32 (s))) := eL314 ▸ jg_ne (by decide) gL313_1 rfl
                  have gL314_2 : jGet L314 2 = some (.int (i32 (n))) := eL314 ▸ jg_ne (by decide) gL313_2 rfl
                  have gL314_3 : jGet L314 3 = some (.int (i32 (many))) := eL314 ▸ jg_ne (by decide) gL313_3 rfl
                  have gL314_6 : jGet L314 6 = some (.int (i32 (r248))) := eL314 ▸ jg_ne (by decide) gL313_6 rfl
                  have gL314_4 : jGet L314 4 = some (.int (i32 (r248))) := eL314 ▸ jg_ne (by decide) gL313_4 rfl
                  have gL314_5 : jGet L314 5 = some (.int (i32 ((kk + (1))))) := eL314 ▸ jg_eq
                  refine jx_ld (pc' := 163) (l' := L314) (st' := [.ref 66]) rfl (jl_aloadn gL314_0) ?_
                  refine jx_ar (pc' := 165) (st' := [.int (i32 (44)), .ref 66]) rfl rfl rfl rfl ?_
                  have b315 : (-2147483648 : Int) ≤ G246 13 ∧ G246 13 ≤ 2147483647 := hW255.1 13
                  refine jx_vr (pc' := 168) (as := [.int (i32 (44))]) (st := []) rfl rfl rfl rfl ⟨rfl, rfl, Nat.le_of_ble_eq_true rfl⟩ rfl rfl (c_is (dd := d) (hd := by omega) (hW := hW304) (k := 44) (tk := tk2_253) (e_tk := show G246 11 = tk2_253 from (e263)) (tn := G246 13) (e_tn := show G246 13 = G246 13 from rfl)  (h_k := ⟨(by decide), (by decide)⟩)  ) (fun o V' hq => ?_)
                  obtain ⟨r316, rfl, rfl, b317, q318⟩ := hq
                  refine .inr ⟨_, rfl, ?_⟩
                  rcases q318 with ⟨rfl, a319, a320, a321⟩ | rfl
                  · have _q : True := trivial
                    refine jx_if_eq (pc' := 171) (tg := 194) rfl rfl rfl (by decide) (by decide) (fun h322 => ?_) (fun h322 => ?_)
                    · have _q := h322
                      exact absurd h322 (by omega)
                    · have _q := h322
                      refine jx_ld (pc' := 173) (l' := L314) (st' := [.int (i32 ((kk + (1))))]) rfl (jl_iload gL314_5) ?_
                      refine jx_ld (pc' := 174) (l' := L314) (st' := [.int (i32 (many)), .int (i32 ((kk + (1))))]) rfl (jl_iloadn gL314_3) ?_
                      refine jx_icmp_ne (pc' := 177) (tg := 186) rfl rfl rfl (by omega) (by omega) (Int.le_trans (by decide : (-2147483648 : Int) ≤ -2147483648) rx_many.1) (Int.le_trans rx_many.2 (by decide : (2147483647 : Int) ≤ 2147483647)) (fun h323 => ?_) (fun h323 => ?_)
                      · have _q := h323
                        refine jx_ld (pc' := 187) (l' := L314) (st' := [.ref 66]) rfl (jl_aloadn gL314_0) ?_
                        refine jx_ar (pc' := 188) (st' := [.int (i32 (1)), .ref 66]) rfl rfl rfl rfl ?_
                        refine jx_vr (pc' := 191) (as := [.int (i32 (1))]) (st := []) rfl rfl rfl rfl ⟨rfl, rfl, Nat.le_of_ble_eq_true rfl⟩ rfl rfl (c_need (dd := d) (hd := by omega) (hW := hW304) (g := 1) (ln := ln) (e_ln := show G246 9 = ln from ((hF256.1 9 rfl).trans (fx_9))) (le := le) (e_le := show A303 4 (ln).toNat = le from (congrFun (((congrFun eA303 4).trans (uA_ne (by decide))).trans ((hF256.2 4 rfl).trans (hFx.2 4 rfl))) _).trans (e_le)) (at0 := at2_249) (e_at0 := show G246 10 = at2_249 from (e259)) (fk := fk2_250) (e_fk := show G246 16 = fk2_250 from (e260)) (tk0 := tk2_253) (e_tk0 := show G246 11 = tk2_253 from (e263))  (h_g := ⟨(by decide), (by decide)⟩)  (p_0 := by omega)) (fun o V' hq => ?_)
                        obtain ⟨G324, A325, at2_326, tk2_327, fk2_328, rfl, rfl, hW329, hF330, e331, e332, e333, p334, p335, q336⟩ := hq
                        have hF337 := Fr_tr hF305 hF330 (Fr_sub (by decide)) (Fr_sub (by decide))
                        have hP338 := Pf_f hP307 hF330 (by decide)
                        have sf339 : ND A325 (n) (25) (nu) (0) (0) (0) (Ax 21 (n).toNat) (0) := ND_ag (by omega) (Ag_fr hF330 (by decide)) sf308
                        have sf340 : CA A325 Vs sb (n) (r248) ((kk + 1)) (pp) (n + 1) (nd2_252) := CA_ag (by omega) (Sg_fr hF330 (by decide)) (Ag_fr hF330 (by decide)) (congrFun (hF330.2 21 rfl) _) sf309
                        have sf341 : wA A325 Vs sb (pp + kk) (r248) (nd1) (nd2_252) := wA_ag (by omega) (Sg_fr hF330 (by decide)) (Ax_ag (Ag_fr hF330 (by decide))) sf310
                        have sf342 : NX A325 (r248) := NX_ag (by omega) (Ag_fr hF330 (by decide)) sf311
                        have ec343 : ecn A325 (G324 31) = ec2_254 := (ecn_f (hF330.2 15 rfl) (hF330.1 31 rfl)).trans ec312
                        have bat2_326 : (0 : Int) ≤ at2_326 ∧ at2_326 ≤ 3002 := e331 ▸ hW329.1 10
                        have ztk2_327 := tz_b tk2_327
                        have btk2_327 : (0 : Int) ≤ tk2_327 ∧ tk2_327 ≤ 5 := e332 ▸ hW329.1 11
                        have bfk2_328 : (0 : Int) ≤ fk2_328 ∧ fk2_328 ≤ 6 := e333 ▸ hW329.1 16
                        refine .inl ⟨rfl, ?_⟩
                        rcases q336 with ⟨a344, a345, a346, a347⟩ | ⟨a348, a349, a350, a351⟩
                        · have _q : True := trivial
                          refine jx_go (tg := 230) rfl rfl ?_
                          refine jx_go (tg := 88) rfl rfl ?_
                          have z352 := tz_f (tk2_327)
                          exact c_readCall_w_at_88p (X := X) (d := d) (Vs := Vs) (sb := sb) (pb := pb) (c0 := c0) (c1 := c1) (G := G) (A := A) (T := T) (s := s) (ln := ln) (le := le) (at0 := at0) (fk := fk) (op0 := op0) (nd := nd) (tk0 := tk0) (li := li) (kd := kd) (nu := nu) (mp := mp) (pp := pp) (ec := ec) (hd := hd) (hW := hW) (e_ln := e_ln) (e_le := e_le) (e_at0 := e_at0) (e_fk := e_fk) (e_op0 := e_op0) (e_nd := e_nd) (e_tk0 := e_tk0) (e_li := e_li) (e_kd := e_kd) (e_nu := e_nu) (e_mp := e_mp) (e_pp := e_pp) (e_ec := e_ec) (i_SV := i_SV) (i_PQ := i_PQ) (h_s := h_s) (p_0 := p_0) (p_1 := p_1) (p_2 := p_2) (p_3 := p_3) (p_4 := p_4) (p_5 := p_5) (p_6 := p_6) (p_7 := p_7) (p_8 := p_8) L314 G324 A325 (n) (many) (r248) ((kk + (1))) (at2_326) (tk2_327) (fk2_328) (nd2_252) (op2_251) (ec2_254) gL314_0 gL314_1 gL314_2 gL314_3 gL314_4 gL314_5 hW329 hF337 hP338 ((e331)) ((e332)) ((e333)) (((hF330.1 31 rfl).trans (e262))) (((hF330.1 15 rfl).trans (e261))) (ec343) (((hF330.1 9 rfl).trans ((hF256.1 9 rfl).trans (fx_9)))) (by omega) (by omega) (by omega) (by omega) (by omega) (by omega) (by omega) (by omega) (by omega) (by omega) (by omega)
                        · have _q : True := trivial
                          refine jx_go (tg := 230) rfl rfl ?_
                          refine jx_go (tg := 88) rfl rfl ?_
                          have z353 := tz_f (tk2_327)
                          exact ih88 _ (by omega) L314 G324 A325 (n) (many) (r248) ((kk + (1))) (at2_326) (tk2_327) (fk2_328) (nd2_252) (op2_251) (ec2_254) rfl gL314_0 gL314_1 gL314_2 gL314_3 gL314_4 gL314_5 hW329 hF337 hP338 ((e331)) ((e332)) ((e333)) (((hF330.1 31 rfl).trans (e262))) (((hF330.1 15 rfl).trans (e261))) (ec343) (((hF330.1 9 rfl).trans ((hF256.1 9 rfl).trans (fx_9)))) (by omega) (by omega) (by omega) (by omega) (by omega) (by omega) (by omega) (by omega) (by omega) (by omega) (by omega) (by omega) (by omega) (by omega) (by omega) (by omega) (by omega) (by omega) (by omega) ((ND_sf sf339)) ((CA_eq sf340 (by omega) (by omega) (by omega) (by omega) (by omega))) (by omega) (by omega) (by omega) (by omega)
                      · have _q := h323
                        refine jx_ld (pc' := 178) (l' := L314) (st' := [.ref 66]) rfl (jl_aloadn gL314_0) ?_
                        refine jx_ar (pc' := 179) (st' := [.int (i32 (4)), .ref 66]) rfl rfl rfl rfl ?_
                        refine jx_ld (pc' := 180) (l' := L314) (st' := [.ref 66, .int (i32 (4)), .ref 66]) rfl (jl_aloadn gL314_0) ?_
                        have b354 : (-3000 : Int) ≤ G246 12 ∧ G246 12 ≤ 3002 := hW255.1 12
                        refine jr_get (pc' := 183) (i := 12) (v := .int (i32 (G246 12))) rfl rfl (by decide) rfl rfl ?_
                        refine jx_vr (pc' := 186) (as := [.int (i32 (4)), .int (i32 (G246 12))]) (st := []) rfl rfl rfl rfl ⟨rfl, rfl, Nat.le_of_ble_eq_true rfl⟩ rfl rfl (c_fail (dd := d) (hd := by omega) (hW := hW304) (kind := 4) (place := G246 12) (fk := fk2_250) (e_fk := show G246 16 = fk2_250 from (e260))  (h_kind := ⟨(by decide), (by decide)⟩) (h_place := ⟨(Int.le_trans (by decide : (-2147483648 : Int) ≤ -3000) b354.1), (Int.le_trans b354.2 (by decide : (3002 : Int) ≤ 2147483647))⟩)  (p_0 := by omega) (p_1 := by omega)) (fun o V' hq => ?_)
                        obtain ⟨G355, A356, fk2_357, rfl, rfl, hW358, hF359, e360, p361, -⟩ := hq
                        have hF363 := Fr_tr hF305 hF359 (Fr_sub (by decide)) (Fr_sub (by decide))
                        have hP364 := Pf_f hP307 hF359 (by decide)
                        have sf365 : ND A356 (n) (25) (nu) (0) (0) (0) (Ax 21 (n).toNat) (0) := ND_ag (by omega) (Ag_fr hF359 (by decide)) sf308
                        have sf366 : CA A356 Vs sb (n) (r248) ((kk + 1)) (pp) (n + 1) (nd2_252) := CA_ag (by omega) (Sg_fr hF359 (by decide)) (Ag_fr hF359 (by decide)) (congrFun (hF359.2 21 rfl) _) sf309
                        have sf367 : wA A356 Vs sb (pp + kk) (r248) (nd1) (nd2_252) := wA_ag (by omega) (Sg_fr hF359 (by decide)) (Ax_ag (Ag_fr hF359 (by decide))) sf310
                        have sf368 : NX A356 (r248) := NX_ag (by omega) (Ag_fr hF359 (by decide)) sf311
                        have ec369 : ecn A356 (G355 31) = ec2_254 := (ecn_f (hF359.2 15 rfl) (hF359.1 31 rfl)).trans ec312
                        have bfk2_357 : (0 : Int) ≤ fk2_357 ∧ fk2_357 ≤ 6 := e360 ▸ hW358.1 16
                        refine .inl ⟨rfl, ?_⟩
                        refine jx_ld (pc' := 187) (l' := L314) (st' := [.ref 66]) rfl (jl_aloadn gL314_0) ?_
                        refine jx_ar (pc' := 188) (st' := [.int (i32 (1)), .ref 66]) rfl rfl rfl rfl ?_
                        refine jx_vr (pc' := 191) (as := [.int (i32 (1))]) (st := []) rfl rfl rfl rfl ⟨rfl, rfl, Nat.le_of_ble_eq_true rfl⟩ rfl rfl (c_need (dd := d) (hd := by omega) (hW := hW358) (g := 1) (ln := ln) (e_ln := show G355 9 = ln from ((hF359.1 9 rfl).trans ((hF256.1 9 rfl).trans (fx_9)))) (le := le) (e_le := show A356 4 (ln).toNat = le from (congrFun ((hF359.2 4 rfl).trans (((congrFun eA303 4).trans (uA_ne (by decide))).trans ((hF256.2 4 rfl).trans (hFx.2 4 rfl)))) _).trans (e_le)) (at0 := at2_249) (e_at0 := show G355 10 = at2_249 from ((hF359.1 10 rfl).trans (e259))) (fk := fk2_357) (e_fk := show G355 16 = fk2_357 from (e360)) (tk0 := tk2_253) (e_tk0 := show G355 11 = tk2_253 from ((hF359.1 11 rfl).trans (e263)))  (h_g := ⟨(by decide), (by decide)⟩)  (p_0 := by omega)) (fun o V' hq => ?_)
                        obtain ⟨G370, A371, at2_372, tk2_373, fk2_374, rfl, rfl, hW375, hF376, e377, e378, e379, p380, p381, q382⟩ := hq
                        have hF383 := Fr_tr hF363 hF376 (Fr_sub (by decide)) (Fr_sub (by decide))
                        have hP384 := Pf_f hP364 hF376 (by decide)
                        have sf385 : ND A371 (n) (25) (nu) (0) (0) (0) (Ax 21 (n).toNat) (0) := ND_ag (by omega) (Ag_fr hF376 (by decide)) sf365
                        have sf386 : CA A371 Vs sb (n) (r248) ((kk + 1)) (pp) (n + 1) (nd2_252) := CA_ag (by omega) (Sg_fr hF376 (by decide)) (Ag_fr hF376 (by decide)) (congrFun (hF376.2 21 rfl) _) sf366
                        have sf387 : wA A371 Vs sb (pp + kk) (r248) (nd1) (nd2_252) := wA_ag (by omega) (Sg_fr hF376 (by decide)) (Ax_ag (Ag_fr hF376 (by decide))) sf367
                        have sf388 : NX A371 (r248) := NX_ag (by omega) (Ag_fr hF376 (by decide)) sf368
                        have ec389 : ecn A371 (G370 31) = ec2_254 := (ecn_f (hF376.2 15 rfl) (hF376.1 31 rfl)).trans ec369
                        have bat2_372 : (0 : Int) ≤ at2_372 ∧ at2_372 ≤ 3002 := e377 ▸ hW375.1 10
                        have ztk2_373 := tz_b tk2_373
                        have btk2_373 : (0 : Int) ≤ tk2_373 ∧ tk2_373 ≤ 5 := e378 ▸ hW375.1 11
                        have bfk2_374 : (0 : Int) ≤ fk2_374 ∧ fk2_374 ≤ 6 := e379 ▸ hW375.1 16
                        refine .inl ⟨rfl, ?_⟩
                        rcases q382 with ⟨a390, a391, a392, a393⟩ | ⟨a394, a395, a396, a397⟩
                        · have _q : True := trivial
                          refine jx_go (tg := 230) rfl rfl ?_
                          refine jx_go (tg := 88) rfl rfl ?_
                          have z398 := tz_f (tk2_373)
                          exact c_readCall_w_at_88p (X := X) (d := d) (Vs := Vs) (sb := sb) (pb := pb) (c0 := c0) (c1 := c1) (G := G) (A := A) (T := T) (s := s) (ln := ln) (le := le) (at0 := at0) (fk := fk) (op0 := op0) (nd := nd) (tk0 := tk0) (li := li) (kd := kd) (nu := nu) (mp := mp) (pp := pp) (ec := ec) (hd := hd) (hW := hW) (e_ln := e_ln) (e_le := e_le) (e_at0 := e_at0) (e_fk := e_fk) (e_op0 := e_op0) (e_nd := e_nd) (e_tk0 := e_tk0) (e_li := e_li) (e_kd := e_kd) (e_nu := e_nu) (e_mp := e_mp) (e_pp := e_pp) (e_ec := e_ec) (i_SV := i_SV) (i_PQ := i_PQ) (h_s := h_s) (p_0 := p_0) (p_1 := p_1) (p_2 := p_2) (p_3 := p_3) (p_4 := p_4) (p_5 := p_5) (p_6 := p_6) (p_7 := p_7) (p_8 := p_8) L314 G370 A371 (n) (many) (r248) ((kk + (1))) (at2_372) (tk2_373) (fk2_374) (nd2_252) (op2_251) (ec2_254) gL314_0 gL314_1 gL314_2 gL314_3 gL314_4 gL314_5 hW375 hF383 hP384 ((e377)) ((e378)) ((e379)) (((hF376.1 31 rfl).trans ((hF359.1 31 rfl).trans (e262)))) (((hF376.1 15 rfl).trans ((hF359.1 15 rfl).trans (e261)))) (ec389) (((hF376.1 9 rfl).trans ((hF359.1 9 rfl).trans ((hF256.1 9 rfl).trans (fx_9))))) (by omega) (by omega) (by omega) (by omega) (by omega) (by omega) (by omega) (by omega) (by omega) (by omega) (by omega)
                        · have _q : True := trivial
                          exfalso
                          omega
                  · have _q : True := trivial
                    refine jx_if_eq (pc' := 171) (tg := 194) rfl rfl rfl (by decide) (by decide) (fun h399 => ?_) (fun h399 => ?_)
                    · have _q := h399
                      refine jx_ld (pc' := 195) (l' := L314) (st' := [.ref 66]) rfl (jl_aloadn gL314_0) ?_
                      refine jx_ar (pc' := 197) (st' := [.int (i32 (41)), .ref 66]) rfl rfl rfl rfl ?_
                      refine jx_vr (pc' := 200) (as := [.int (i32 (41))]) (st := []) rfl rfl rfl rfl ⟨rfl, rfl, Nat.le_of_ble_eq_true rfl⟩ rfl rfl (c_is (dd := d) (hd := by omega) (hW := hW304) (k := 41) (tk := tk2_253) (e_tk := show G246 11 = tk2_253 from (e263)) (tn := G246 13) (e_tn := show G246 13 = G246 13 from rfl)  (h_k := ⟨(by decide), (by decide)⟩)  ) (fun o V' hq => ?_)
                      obtain ⟨r400, rfl, rfl, b401, q402⟩ := hq
                      refine .inr ⟨_, rfl, ?_⟩
                      rcases q402 with ⟨rfl, a403, a404, a405⟩ | rfl
                      · have _q : True := trivial
                        refine jx_if_eq (pc' := 203) (tg := 221) rfl rfl rfl (by decide) (by decide) (fun h406 => ?_) (fun h406 => ?_)
                        · have _q := h406
                          exact absurd h406 (by omega)
                        · have _q := h406
                          refine jx_ld (pc' := 205) (l' := L314) (st' := [.int (i32 ((kk + (1))))]) rfl (jl_iload gL314_5) ?_
                          refine jx_ld (pc' := 206) (l' := L314) (st' := [.int (i32 (many)), .int (i32 ((kk + (1))))]) rfl (jl_iloadn gL314_3) ?_
                          refine jx_icmp_ge (pc' := 209) (tg := 230) rfl rfl rfl (by omega) (by omega) (Int.le_trans (by decide : (-2147483648 : Int) ≤ -2147483648) rx_many.1) (Int.le_trans rx_many.2 (by decide : (2147483647 : Int) ≤ 2147483647)) (fun h407 => ?_) (fun h407 => ?_)
                          · have _q := h407
                            refine jx_go (tg := 88) rfl rfl ?_
                            have z408 := tz_f (tk2_253)
                            exact ih88 _ (by omega) L314 G246 A303 (n) (many) (r248) ((kk + (1))) (at2_249) (tk2_253) (fk2_250) (nd2_252) (op2_251) (ec2_254) rfl gL314_0 gL314_1 gL314_2 gL314_3 gL314_4 gL314_5 hW304 hF305 hP307 ((e259)) ((e263)) ((e260)) ((e262)) ((e261)) (ec312) (((hF256.1 9 rfl).trans (fx_9))) (by omega) (by omega) (by omega) (by omega) (by omega) (by omega) (by omega) (by omega) (by omega) (by omega) (by omega) (by omega) (by omega) (by omega) (by omega) (by omega) (by omega) (by omega) (by omega) ((ND_sf sf308)) ((CA_eq sf309 (by omega) (by omega) (by omega) (by omega) (by omega))) (by omega) (by omega) (by omega) (by omega)
                          · have _q := h407
                            refine jx_ld (pc' := 210) (l' := L314) (st' := [.ref 66]) rfl (jl_aloadn gL314_0) ?_
                            refine jx_ar (pc' := 211) (st' := [.int (i32 (4)), .ref 66]) rfl rfl rfl rfl ?_
                            refine jx_ld (pc' := 212) (l' := L314) (st' := [.ref 66, .int (i32 (4)), .ref 66]) rfl (jl_aloadn gL314_0) ?_
                            have b409 : (-3000 : Int) ≤ G246 12 ∧ G246 12 ≤ 3002 := hW255.1 12
                            refine jr_get (pc' := 215) (i := 12) (v := .int (i32 (G246 12))) rfl rfl (by decide) rfl rfl ?_
                            refine jx_vr (pc' := 218) (as := [.int (i32 (4)), .int (i32 (G246 12))]) (st := []) rfl rfl rfl rfl ⟨rfl, rfl, Nat.le_of_ble_eq_true rfl⟩ rfl rfl (c_fail (dd := d) (hd := by omega) (hW := hW304) (kind := 4) (place := G246 12) (fk := fk2_250) (e_fk := show G246 16 = fk2_250 from (e260))  (h_kind := ⟨(by decide), (by decide)⟩) (h_place := ⟨(Int.le_trans (by decide : (-2147483648 : Int) ≤ -3000) b409.1), (Int.le_trans b409.2 (by decide : (3002 : Int) ≤ 2147483647))⟩)  (p_0 := by omega) (p_1 := by omega)) (fun o V' hq => ?_)
                            obtain ⟨G410, A411, fk2_412, rfl, rfl, hW413, hF414, e415, p416, -⟩ := hq
                            have hF418 := Fr_tr hF305 hF414 (Fr_sub (by decide)) (Fr_sub (by decide))
                            have hP419 := Pf_f hP307 hF414 (by decide)
                            have sf420 : ND A411 (n) (25) (nu) (0) (0) (0) (Ax 21 (n).toNat) (0) := ND_ag (by omega) (Ag_fr hF414 (by decide)) sf308
                            have sf421 : CA A411 Vs sb (n) (r248) ((kk + 1)) (pp) (n + 1) (nd2_252) := CA_ag (by omega) (Sg_fr hF414 (by decide)) (Ag_fr hF414 (by decide)) (congrFun (hF414.2 21 rfl) _) sf309
                            have sf422 : wA A411 Vs sb (pp + kk) (r248) (nd1) (nd2_252) := wA_ag (by omega) (Sg_fr hF414 (by decide)) (Ax_ag (Ag_fr hF414 (by decide))) sf310
                            have sf423 : NX A411 (r248) := NX_ag (by omega) (Ag_fr hF414 (by decide)) sf311
                            have ec424 : ecn A411 (G410 31) = ec2_254 := (ecn_f (hF414.2 15 rfl) (hF414.1 31 rfl)).trans ec312
                            have bfk2_412 : (0 : Int) ≤ fk2_412 ∧ fk2_412 ≤ 6 := e415 ▸ hW413.1 16
                            refine .inl ⟨rfl, ?_⟩
                            refine jx_go (tg := 230) rfl rfl ?_
                            refine jx_go (tg := 88) rfl rfl ?_
                            have z425 := tz_f (tk2_253)
                            exact c_readCall_w_at_88p (X := X) (d := d) (Vs := Vs) (sb := sb) (pb := pb) (c0 := c0) (c1 := c1) (G := G) (A := A) (T := T) (s := s) (ln := ln) (le := le) (at0 := at0) (fk := fk) (op0 := op0) (nd := nd) (tk0 := tk0) (li := li) (kd := kd) (nu := nu) (mp := mp) (pp := pp) (ec := ec) (hd := hd) (hW := hW) (e_ln := e_ln) (e_le := e_le) (e_at0 := e_at0) (e_fk := e_fk) (e_op0 := e_op0) (e_nd := e_nd) (e_tk0 := e_tk0) (e_li := e_li) (e_kd := e_kd) (e_nu := e_nu) (e_mp := e_mp) (e_pp := e_pp) (e_ec := e_ec) (i_SV := i_SV) (i_PQ := i_PQ) (h_s := h_s) (p_0 := p_0) (p_1 := p_1) (p_2 := p_2) (p_3 := p_3) (p_4 := p_4) (p_5 := p_5) (p_6 := p_6) (p_7 := p_7) (p_8 := p_8) L314 G410 A411 (n) (many) (r248) ((kk + (1))) (at2_249) (tk2_253) (fk2_412) (nd2_252) (op2_251) (ec2_254) gL314_0 gL314_1 gL314_2 gL314_3 gL314_4 gL314_5 hW413 hF418 hP419 (((hF414.1 10 rfl).trans (e259))) (((hF414.1 11 rfl).trans (e263))) ((e415)) (((hF414.1 31 rfl).trans (e262))) (((hF414.1 15 rfl).trans (e261))) (ec424) (((hF414.1 9 rfl).trans ((hF256.1 9 rfl).trans (fx_9)))) (by omega) (by omega) (by omega) (by omega) (by omega) (by omega) (by omega) (by omega) (by omega) (by omega) (by omega)
                      · have _q : True := trivial
                        refine jx_if_eq (pc' := 203) (tg := 221) rfl rfl rfl (by decide) (by decide) (fun h426 => ?_) (fun h426 => ?_)
                        · have _q := h426
                          refine jx_ld (pc' := 222) (l' := L314) (st' := [.ref 66]) rfl (jl_aloadn gL314_0) ?_
                          refine jx_ar (pc' := 223) (st' := [.int (i32 (1)), .ref 66]) rfl rfl rfl rfl ?_
                          refine jx_ld (pc' := 224) (l' := L314) (st' := [.ref 66, .int (i32 (1)), .ref 66]) rfl (jl_aloadn gL314_0) ?_
                          have b427 : (-3000 : Int) ≤ G246 12 ∧ G246 12 ≤ 3002 := hW255.1 12
                          refine jr_get (pc' := 227) (i := 12) (v := .int (i32 (G246 12))) rfl rfl (by decide) rfl rfl ?_
                          refine jx_vr (pc' := 230) (as := [.int (i32 (1)), .int (i32 (G246 12))]) (st := []) rfl rfl rfl rfl ⟨rfl, rfl, Nat.le_of_ble_eq_true rfl⟩ rfl rfl (c_fail (dd := d) (hd := by omega) (hW := hW304) (kind := 1) (place := G246 12) (fk := fk2_250) (e_fk := show G246 16 = fk2_250 from (e260))  (h_kind := ⟨(by decide), (by decide)⟩) (h_place := ⟨(Int.le_trans (by decide : (-2147483648 : Int) ≤ -3000) b427.1), (Int.le_trans b427.2 (by decide : (3002 : Int) ≤ 2147483647))⟩)  (p_0 := by omega) (p_1 := by omega)) (fun o V' hq => ?_)
                          obtain ⟨G428, A429, fk2_430, rfl, rfl, hW431, hF432, e433, p434, -⟩ := hq
                          have hF436 := Fr_tr hF305 hF432 (Fr_sub (by decide)) (Fr_sub (by decide))
                          have hP437 := Pf_f hP307 hF432 (by decide)
                          have sf438 : ND A429 (n) (25) (nu) (0) (0) (0) (Ax 21 (n).toNat) (0) := ND_ag (by omega) (Ag_fr hF432 (by decide)) sf308
                          have sf439 : CA A429 Vs sb (n) (r248) ((kk + 1)) (pp) (n + 1) (nd2_252) := CA_ag (by omega) (Sg_fr hF432 (by decide)) (Ag_fr hF432 (by decide)) (congrFun (hF432.2 21 rfl) _) sf309
                          have sf440 : wA A429 Vs sb (pp + kk) (r248) (nd1) (nd2_252) := wA_ag (by omega) (Sg_fr hF432 (by decide)) (Ax_ag (Ag_fr hF432 (by decide))) sf310
                          have sf441 : NX A429 (r248) := NX_ag (by omega) (Ag_fr hF432 (by decide)) sf311
                          have ec442 : ecn A429 (G428 31) = ec2_254 := (ecn_f (hF432.2 15 rfl) (hF432.1 31 rfl)).trans ec312
                          have bfk2_430 : (0 : Int) ≤ fk2_430 ∧ fk2_430 ≤ 6 := e433 ▸ hW431.1 16
                          refine .inl ⟨rfl, ?_⟩
                          refine jx_go (tg := 88) rfl rfl ?_
                          have z443 := tz_f (tk2_253)
                          exact c_readCall_w_at_88p (X := X) (d := d) (Vs := Vs) (sb := sb) (pb := pb) (c0 := c0) (c1 := c1) (G := G) (A := A) (T := T) (s := s) (ln := ln) (le := le) (at0 := at0) (fk := fk) (op0 := op0) (nd := nd) (tk0 := tk0) (li := li) (kd := kd) (nu := nu) (mp := mp) (pp := pp) (ec := ec) (hd := hd) (hW := hW) (e_ln := e_ln) (e_le := e_le) (e_at0 := e_at0) (e_fk := e_fk) (e_op0 := e_op0) (e_nd := e_nd) (e_tk0 := e_tk0) (e_li := e_li) (e_kd := e_kd) (e_nu := e_nu) (e_mp := e_mp) (e_pp := e_pp) (e_ec := e_ec) (i_SV := i_SV) (i_PQ := i_PQ) (h_s := h_s) (p_0 := p_0) (p_1 := p_1) (p_2 := p_2) (p_3 := p_3) (p_4 := p_4) (p_5 := p_5) (p_6 := p_6) (p_7 := p_7) (p_8 := p_8) L314 G428 A429 (n) (many) (r248) ((kk + (1))) (at2_249) (tk2_253) (fk2_430) (nd2_252) (op2_251) (ec2_254) gL314_0 gL314_1 gL314_2 gL314_3 gL314_4 gL314_5 hW431 hF436 hP437 (((hF432.1 10 rfl).trans (e259))) (((hF432.1 11 rfl).trans (e263))) ((e433)) (((hF432.1 31 rfl).trans (e262))) (((hF432.1 15 rfl).trans (e261))) (ec442) (((hF432.1 9 rfl).trans ((hF256.1 9 rfl).trans (fx_9)))) (by omega) (by omega) (by omega) (by omega) (by omega) (by omega) (by omega) (by omega) (by omega) (by omega) (by omega)
                        · have _q := h426
                          exact absurd h426 (by omega)
                    · have _q := h399
                      exact absurd h399 (by omega)
                · have _q := h302
                  refine jx_ld (pc' := 136) (l' := L295) (st' := [.ref 66]) rfl (jl_aloadn gL295_0) ?_
                  refine jr_get (pc' := 139) (i := 38) (v := .ref 88) rfl rfl (by decide) rfl rfl ?_
                  refine jx_ld (pc' := 140) (l' := L295) (st' := [.int (i32 (n)), .ref 88]) rfl (jl_iloadn gL295_2) ?_
                  refine jx_ld (pc' := 142) (l' := L295) (st' := [.int (i32 (r248)), .int (i32 (n)), .ref 88]) rfl (jl_iload gL295_6) ?_
                  refine jr_st (pc' := 143) (i := 21) (m := 7000) (z := n) (y := r248) rfl (by decide) rfl (by decide) (by omega) (by omega) rfl ?_
                  have hW445 : Wk G246 (uA A247 21 (n).toNat (r248)) := Wk_a hW255 (show (-2147483648 : Int) ≤ r248 by omega) (show r248 ≤ (2147483647 : Int) by omega)
                  have hF446 := Fr_a (z := r248) (k := 21) (n := (n).toNat) hF272 (by decide)
                  obtain ⟨A444, eA444⟩ : ∃ q, q = uA A247 21 (n).toNat (r248) := ⟨_, rfl⟩
                  rw [← eA444]
                  rw [← eA444] at hW445 hF446
                  have q447 : A444 21 (n).toNat = r248 := by rw [eA444]; exact uA_eq
                  have hP448 : Pf nd A A444 := eA444 ▸ Pf_a hP273 (z := n) (by omega) (by omega)
                  have sf449 : ND A444 (n) (25) (nu) (0) (0) (0) (r248) (0) := ND_f eA444 sf274
                  have sf450 : CA A444 Vs sb (n) (r248) ((kk + 1)) (pp) (n + 1) (nd2_252) := CA_one eA444 (by omega) (by omega) (by omega) a284 a285 (CA_0 (by omega) sf275)
                  have sf451 : wA A444 Vs sb (pp + kk) (r248) (nd1) (nd2_252) := wA_ag (by omega) (Sg_ne eA444 rfl) (Ax_ag (Ag_st eA444 (by omega) (by omega))) a284
                  have sf452 : NX A444 (r248) := NX_r eA444 (by decide) a285
                  have ec453 : ecn A444 (G246 31) = ec2_254 := (ecn_e ((congrFun eA444 15).trans (uA_ne (by decide)))).trans e264
                  refine jx_go (tg := 155) rfl rfl ?_
                  refine jx_ld (pc' := 157) (l' := L295) (st' := [.int (i32 (r248))]) rfl (jl_iload gL295_6) ?_
                  refine jx_ld (pc' := 159) (l' := jSto1 L295 4 (.int (i32 (r248)))) (st' := []) rfl rfl ?_
                  obtain ⟨L454, eL454⟩ : ∃ q, q = jSto1 L295 4 (.int (i32 (r248))) := ⟨_, rfl⟩
                  rw [← eL454]
                  have gL454_0 : jGet L454 0 = some (.ref 66) := eL454 ▸ jg_ne (by decide) gL295_0 rfl
                  have gL454_1 : jGet L454 1 = some (.int (i32 (s))) := eL454 ▸ jg_ne (by decide) gL295_1 rfl
                  have gL454_2 : jGet L454 2 = some (.int (i32 (n))) := eL454 ▸ jg_ne (by decide) gL295_2 rfl
                  have gL454_3 : jGet L454 3 = some (.int (i32 (many))) := eL454 ▸ jg_ne (by decide) gL295_3 rfl
                  have gL454_5 : jGet L454 5 = some (.int (i32 (kk))) := eL454 ▸ jg_ne (by decide) gL295_5 rfl
                  have gL454_6 : jGet L454 6 = some (.int (i32 (r248))) := eL454 ▸ jg_ne (by decide) gL295_6 rfl
                  have gL454_4 : jGet L454 4 = some (.int (i32 (r248))) := eL454 ▸ jg_eq
                  refine jx_inc (pc' := 162) (l' := jSto1 L454 5 (.int (i32 ((kk + (1)))))) (x := kk) rfl gL454_5 (by decide) rfl rfl ?_
                  obtain ⟨L455, eL455⟩ : ∃ q, q = jSto1 L454 5 (.int (i32 ((kk + (1))))) := ⟨_, rfl⟩
                  rw [← eL455]
                  have gL455_0 : jGet L455 0 = some (.ref 66) := eL455 ▸ jg_ne (by decide) gL454_0 rfl
                  have gL455_1 : jGet L455 1 = some (.int (i32 (s))) := eL455 ▸ jg_ne (by decide) gL454_1 rfl
                  have gL455_2 : jGet L455 2 = some (.int (i32 (n))) := eL455 ▸ jg_ne (by decide) gL454_2 rfl
                  have gL455_3 : jGet L455 3 = some (.int (i32 (many))) := eL455 ▸ jg_ne (by decide) gL454_3 rfl
                  have gL455_6 : jGet L455 6 = some (.int (i32 (r248))) := eL455 ▸ jg_ne (by decide) gL454_6 rfl
                  have gL455_4 : jGet L455 4 = some (.int (i32 (r248))) := eL455 ▸ jg_ne (by decide) gL454_4 rfl
                  have gL455_5 : jGet L455 5 = some (.int (i32 ((kk + (1))))) := eL455 ▸ jg_eq
                  refine jx_ld (pc' := 163) (l' := L455) (st' := [.ref 66]) rfl (jl_aloadn gL455_0) ?_
                  refine jx_ar (pc' := 165) (st' := [.int (i32 (44)), .ref 66]) rfl rfl rfl rfl ?_
                  have b456 : (-2147483648 : Int) ≤ G246 13 ∧ G246 13 ≤ 2147483647 := hW255.1 13
                  refine jx_vr (pc' := 168) (as := [.int (i32 (44))]) (st := []) rfl rfl rfl rfl ⟨rfl, rfl, Nat.le_of_ble_eq_true rfl⟩ rfl rfl (c_is (dd := d) (hd := by omega) (hW := hW445) (k := 44) (tk := tk2_253) (e_tk := show G246 11 = tk2_253 from (e263)) (tn := G246 13) (e_tn := show G246 13 = G246 13 from rfl)  (h_k := ⟨(by decide), (by decide)⟩)  ) (fun o V' hq => ?_)
                  obtain ⟨r457, rfl, rfl, b458, q459⟩ := hq
                  refine .inr ⟨_, rfl, ?_⟩
                  rcases q459 with ⟨rfl, a460, a461, a462⟩ | rfl
                  · have _q : True := trivial
                    refine jx_if_eq (pc' := 171) (tg := 194) rfl rfl rfl (by decide) (by decide) (fun h463 => ?_) (fun h463 => ?_)
                    · have _q := h463
                      exact absurd h463 (by omega)
                    · have _q := h463
                      refine jx_ld (pc' := 173) (l' := L455) (st' := [.int (i32 ((kk + (1))))]) rfl (jl_iload gL455_5) ?_
                      refine jx_ld (pc' := 174) (l' := L455) (st' := [.int (i32 (many)), .int (i32 ((kk + (1))))]) rfl (jl_iloadn gL455_3) ?_
                      refine jx_icmp_ne (pc' := 177) (tg := 186) rfl rfl rfl (by omega) (by omega) (Int.le_trans (by decide : (-2147483648 : Int) ≤ -2147483648) rx_many.1) (Int.le_trans rx_many.2 (by decide : (2147483647 : Int) ≤ 2147483647)) (fun h464 => ?_) (fun h464 => ?_)
                      · have _q := h464
                        refine jx_ld (pc' := 187) (l' := L455) (st' := [.ref 66]) rfl (jl_aloadn gL455_0) ?_
                        refine jx_ar (pc' := 188) (st' := [.int (i32 (1)), .ref 66]) rfl rfl rfl rfl ?_
                        refine jx_vr (pc' := 191) (as := [.int (i32 (1))]) (st := []) rfl rfl rfl rfl ⟨rfl, rfl, Nat.le_of_ble_eq_true rfl⟩ rfl rfl (c_need (dd := d) (hd := by omega) (hW := hW445) (g := 1) (ln := ln) (e_ln := show G246 9 = ln from ((hF256.1 9 rfl).trans (fx_9))) (le := le) (e_le := show A444 4 (ln).toNat = le from (congrFun (((congrFun eA444 4).trans (uA_ne (by decide))).trans ((hF256.2 4 rfl).trans (hFx.2 4 rfl))) _).trans (e_le)) (at0 := at2_249) (e_at0 := show G246 10 = at2_249 from (e259)) (fk := fk2_250) (e_fk := show G246 16 = fk2_250 from (e260)) (tk0 := tk2_253) (e_tk0 := show G246 11 = tk2_253 from (e263))  (h_g := ⟨(by decide), (by decide)⟩)  (p_0 := by omega)) (fun o V' hq => ?_)
                        obtain ⟨G465, A466, at2_467, tk2_468, fk2_469, rfl, rfl, hW470, hF471, e472, e473, e474, p475, p476, q477⟩ := hq
                        have hF478 := Fr_tr hF446 hF471 (Fr_sub (by decide)) (Fr_sub (by decide))
                        have hP479 := Pf_f hP448 hF471 (by decide)
                        have sf480 : ND A466 (n) (25) (nu) (0) (0) (0) (r248) (0) := ND_ag (by omega) (Ag_fr hF471 (by decide)) sf449
                        have sf481 : CA A466 Vs sb (n) (r248) ((kk + 1)) (pp) (n + 1) (nd2_252) := CA_ag (by omega) (Sg_fr hF471 (by decide)) (Ag_fr hF471 (by decide)) (congrFun (hF471.2 21 rfl) _) sf450
                        have sf482 : wA A466 Vs sb (pp + kk) (r248) (nd1) (nd2_252) := wA_ag (by omega) (Sg_fr hF471 (by decide)) (Ax_ag (Ag_fr hF471 (by decide))) sf451
                        have sf483 : NX A466 (r248) := NX_ag (by omega) (Ag_fr hF471 (by decide)) sf452
                        have ec484 : ecn A466 (G465 31) = ec2_254 := (ecn_f (hF471.2 15 rfl) (hF471.1 31 rfl)).trans ec453
                        have bat2_467 : (0 : Int) ≤ at2_467 ∧ at2_467 ≤ 3002 := e472 ▸ hW470.1 10
                        have ztk2_468 := tz_b tk2_468
                        have btk2_468 : (0 : Int) ≤ tk2_468 ∧ tk2_468 ≤ 5 := e473 ▸ hW470.1 11
                        have bfk2_469 : (0 : Int) ≤ fk2_469 ∧ fk2_469 ≤ 6 := e474 ▸ hW470.1 16
                        refine .inl ⟨rfl, ?_⟩
                        rcases q477 with ⟨a485, a486, a487, a488⟩ | ⟨a489, a490, a491, a492⟩
                        · have _q : True := trivial
                          refine jx_go (tg := 230) rfl rfl ?_
                          refine jx_go (tg := 88) rfl rfl ?_
                          have z493 := tz_f (tk2_468)
                          exact c_readCall_w_at_88p (X := X) (d := d) (Vs := Vs) (sb := sb) (pb := pb) (c0 := c0) (c1 := c1) (G := G) (A := A) (T := T) (s := s) (ln := ln) (le := le) (at0 := at0) (fk := fk) (op0 := op0) (nd := nd) (tk0 := tk0) (li := li) (kd := kd) (nu := nu) (mp := mp) (pp := pp) (ec := ec) (hd := hd) (hW := hW) (e_ln := e_ln) (e_le := e_le) (e_at0 := e_at0) (e_fk := e_fk) (e_op0 := e_op0) (e_nd := e_nd) (e_tk0 := e_tk0) (e_li := e_li) (e_kd := e_kd) (e_nu := e_nu) (e_mp := e_mp) (e_pp := e_pp) (e_ec := e_ec) (i_SV := i_SV) (i_PQ := i_PQ) (h_s := h_s) (p_0 := p_0) (p_1 := p_1) (p_2 := p_2) (p_3 := p_3) (p_4 := p_4) (p_5 := p_5) (p_6 := p_6) (p_7 := p_7) (p_8 := p_8) L455 G465 A466 (n) (many) (r248) ((kk + (1))) (at2_467) (tk2_468) (fk2_469) (nd2_252) (op2_251) (ec2_254) gL455_0 gL455_1 gL455_2 gL455_3 gL455_4 gL455_5 hW470 hF478 hP479 ((e472)) ((e473)) ((e474)) (((hF471.1 31 rfl).trans (e262))) (((hF471.1 15 rfl).trans (e261))) (ec484) (((hF471.1 9 rfl).trans ((hF256.1 9 rfl).trans (fx_9)))) (by omega) (by omega) (by omega) (by omega) (by omega) (by omega) (by omega) (by omega) (by omega) (by omega) (by omega)
                        · have _q : True := trivial
                          refine jx_go (tg := 230) rfl rfl ?_
                          refine jx_go (tg := 88) rfl rfl ?_
                          have z494 := tz_f (tk2_468)
                          exact ih88 _ (by omega) L455 G465 A466 (n) (many) (r248) ((kk + (1))) (at2_467) (tk2_468) (fk2_469) (nd2_252) (op2_251) (ec2_254) rfl gL455_0 gL455_1 gL455_2 gL455_3 gL455_4 gL455_5 hW470 hF478 hP479 ((e472)) ((e473)) ((e474)) (((hF471.1 31 rfl).trans (e262))) (((hF471.1 15 rfl).trans (e261))) (ec484) (((hF471.1 9 rfl).trans ((hF256.1 9 rfl).trans (fx_9)))) (by omega) (by omega) (by omega) (by omega) (by omega) (by omega) (by omega) (by omega) (by omega) (by omega) (by omega) (by omega) (by omega) (by omega) (by omega) (by omega) (by omega) (by omega) (by omega) ((ND_sf sf480)) ((CA_eq sf481 (by omega) (by omega) (by omega) (by omega) (by omega))) (by omega) (by omega) (by omega) (by omega)
                      · have _q := h464
                        refine jx_ld (pc' := 178) (l' := L455) (st' := [.ref 66]) rfl (jl_aloadn gL455_0) ?_
                        refine jx_ar (pc' := 179) (st' := [.int (i32 (4)), .ref 66]) rfl rfl rfl rfl ?_
                        refine jx_ld (pc' := 180) (l' := L455) (st' := [.ref 66, .int (i32 (4)), .ref 66]) rfl (jl_aloadn gL455_0) ?_
                        have b495 : (-3000 : Int) ≤ G246 12 ∧ G246 12 ≤ 3002 := hW255.1 12
                        refine jr_get (pc' := 183) (i := 12) (v := .int (i32 (G246 12))) rfl rfl (by decide) rfl rfl ?_
                        refine jx_vr (pc' := 186) (as := [.int (i32 (4)), .int (i32 (G246 12))]) (st := []) rfl rfl rfl rfl ⟨rfl, rfl, Nat.le_of_ble_eq_true rfl⟩ rfl rfl (c_fail (dd := d) (hd := by omega) (hW := hW445) (kind := 4) (place := G246 12) (fk := fk2_250) (e_fk := show G246 16 = fk2_250 from (e260))  (h_kind := ⟨(by decide), (by decide)⟩) (h_place := ⟨(Int.le_trans (by decide : (-2147483648 : Int) ≤ -3000) b495.1), (Int.le_trans b495.2 (by decide : (3002 : Int) ≤ 2147483647))⟩)  (p_0 := by omega) (p_1 := by omega)) (fun o V' hq => ?_)
                        obtain ⟨G496, A497, fk2_498, rfl, rfl, hW499, hF500, e501, p502, -⟩ := hq
                        have hF504 := Fr_tr hF446 hF500 (Fr_sub (by decide)) (Fr_sub (by decide))
                        have hP505 := Pf_f hP448 hF500 (by decide)
                        have sf506 : ND A497 (n) (25) (nu) (0) (0) (0) (r248) (0) := ND_ag (by omega) (Ag_fr hF500 (by decide)) sf449
                        have sf507 : CA A497 Vs sb (n) (r248) ((kk + 1)) (pp) (n + 1) (nd2_252) := CA_ag (by omega) (Sg_fr hF500 (by decide)) (Ag_fr hF500 (by decide)) (congrFun (hF500.2 21 rfl) _) sf450
                        have sf508 : wA A497 Vs sb (pp + kk) (r248) (nd1) (nd2_252) := wA_ag (by omega) (Sg_fr hF500 (by decide)) (Ax_ag (Ag_fr hF500 (by decide))) sf451
                        have sf509 : NX A497 (r248) := NX_ag (by omega) (Ag_fr hF500 (by decide)) sf452
                        have ec510 : ecn A497 (G496 31) = ec2_254 := (ecn_f (hF500.2 15 rfl) (hF500.1 31 rfl)).trans ec453
                        have bfk2_498 : (0 : Int) ≤ fk2_498 ∧ fk2_498 ≤ 6 := e501 ▸ hW499.1 16
                        refine .inl ⟨rfl, ?_⟩
                        refine jx_ld (pc' := 187) (l' := L455) (st' := [.ref 66]) rfl (jl_aloadn gL455_0) ?_
                        refine jx_ar (pc' := 188) (st' := [.int (i32 (1)), .ref 66]) rfl rfl rfl rfl ?_
                        refine jx_vr (pc' := 191) (as := [.int (i32 (1))]) (st := []) rfl rfl rfl rfl ⟨rfl, rfl, Nat.le_of_ble_eq_true rfl⟩ rfl rfl (c_need (dd := d) (hd := by omega) (hW := hW499) (g := 1) (ln := ln) (e_ln := show G496 9 = ln from ((hF500.1 9 rfl).trans ((hF256.1 9 rfl).trans (fx_9)))) (le := le) (e_le := show A497 4 (ln).toNat = le from (congrFun ((hF500.2 4 rfl).trans (((congrFun eA444 4).trans (uA_ne (by decide))).trans ((hF256.2 4 rfl).trans (hFx.2 4 rfl)))) _).trans (e_le)) (at0 := at2_249) (e_at0 := show G496 10 = at2_249 from ((hF500.1 10 rfl).trans (e259))) (fk := fk2_498) (e_fk := show G496 16 = fk2_498 from (e501)) (tk0 := tk2_253) (e_tk0 := show G496 11 = tk2_253 from ((hF500.1 11 rfl).trans (e263)))  (h_g := ⟨(by decide), (by decide)⟩)  (p_0 := by omega)) (fun o V' hq => ?_)
                        obtain ⟨G511, A512, at2_513, tk2_514, fk2_515, rfl, rfl, hW516, hF517, e518, e519, e520, p521, p522, q523⟩ := hq
                        have hF524 := Fr_tr hF504 hF517 (Fr_sub (by decide)) (Fr_sub (by decide))
                        have hP525 := Pf_f hP505 hF517 (by decide)
                        have sf526 : ND A512 (n) (25) (nu) (0) (0) (0) (r248) (0) := ND_ag (by omega) (Ag_fr hF517 (by decide)) sf506
                        have sf527 : CA A512 Vs sb (n) (r248) ((kk + 1)) (pp) (n + 1) (nd2_252) := CA_ag (by omega) (Sg_fr hF517 (by decide)) (Ag_fr hF517 (by decide)) (congrFun (hF517.2 21 rfl) _) sf507
                        have sf528 : wA A512 Vs sb (pp + kk) (r248) (nd1) (nd2_252) := wA_ag (by omega) (Sg_fr hF517 (by decide)) (Ax_ag (Ag_fr hF517 (by decide))) sf508
                        have sf529 : NX A512 (r248) := NX_ag (by omega) (Ag_fr hF517 (by decide)) sf509
                        have ec530 : ecn A512 (G511 31) = ec2_254 := (ecn_f (hF517.2 15 rfl) (hF517.1 31 rfl)).trans ec510
                        have bat2_513 : (0 : Int) ≤ at2_513 ∧ at2_513 ≤ 3002 := e518 ▸ hW516.1 10
                        have ztk2_514 := tz_b tk2_514
                        have btk2_514 : (0 : Int) ≤ tk2_514 ∧ tk2_514 ≤ 5 := e519 ▸ hW516.1 11
                        have bfk2_515 : (0 : Int) ≤ fk2_515 ∧ fk2_515 ≤ 6 := e520 ▸ hW516.1 16
                        refine .inl ⟨rfl, ?_⟩
                        rcases q523 with ⟨a531, a532, a533, a534⟩ | ⟨a535, a536, a537, a538⟩
                        · have _q : True := trivial
                          refine jx_go (tg := 230) rfl rfl ?_
                          refine jx_go (tg := 88) rfl rfl ?_
                          have z539 := tz_f (tk2_514)
                          exact c_readCall_w_at_88p (X := X) (d := d) (Vs := Vs) (sb := sb) (pb := pb) (c0 := c0) (c1 := c1) (G := G) (A := A) (T := T) (s := s) (ln := ln) (le := le) (at0 := at0) (fk := fk) (op0 := op0) (nd := nd) (tk0 := tk0) (li := li) (kd := kd) (nu := nu) (mp := mp) (pp := pp) (ec := ec) (hd := hd) (hW := hW) (e_ln := e_ln) (e_le := e_le) (e_at0 := e_at0) (e_fk := e_fk) (e_op0 := e_op0) (e_nd := e_nd) (e_tk0 := e_tk0) (e_li := e_li) (e_kd := e_kd) (e_nu := e_nu) (e_mp := e_mp) (e_pp := e_pp) (e_ec := e_ec) (i_SV := i_SV) (i_PQ := i_PQ) (h_s := h_s) (p_0 := p_0) (p_1 := p_1) (p_2 := p_2) (p_3 := p_3) (p_4 := p_4) (p_5 := p_5) (p_6 := p_6) (p_7 := p_7) (p_8 := p_8) L455 G511 A512 (n) (many) (r248) ((kk + (1))) (at2_513) (tk2_514) (fk2_515) (nd2_252) (op2_251) (ec2_254) gL455_0 gL455_1 gL455_2 gL455_3 gL455_4 gL455_5 hW516 hF524 hP525 ((e518)) ((e519)) ((e520)) (((hF517.1 31 rfl).trans ((hF500.1 31 rfl).trans (e262)))) (((hF517.1 15 rfl).trans ((hF500.1 15 rfl).trans (e261)))) (ec530) (((hF517.1 9 rfl).trans ((hF500.1 9 rfl).trans ((hF256.1 9 rfl).trans (fx_9))))) (by omega) (by omega) (by omega) (by omega) (by omega) (by omega) (by omega) (by omega) (by omega) (by omega) (by omega)
                        · have _q : True := trivial
                          exfalso
                          omega
                  · have _q : True := trivial
                    refine jx_if_eq (pc' := 171) (tg := 194) rfl rfl rfl (by decide) (by decide) (fun h540 => ?_) (fun h540 => ?_)
                    · have _q := h540
                      refine jx_ld (pc' := 195) (l' := L455) (st' := [.ref 66]) rfl (jl_aloadn gL455_0) ?_
                      refine jx_ar (pc' := 197) (st' := [.int (i32 (41)), .ref 66]) rfl rfl rfl rfl ?_
                      refine jx_vr (pc' := 200) (as := [.int (i32 (41))]) (st := []) rfl rfl rfl rfl ⟨rfl, rfl, Nat.le_of_ble_eq_true rfl⟩ rfl rfl (c_is (dd := d) (hd := by omega) (hW := hW445) (k := 41) (tk := tk2_253) (e_tk := show G246 11 = tk2_253 from (e263)) (tn := G246 13) (e_tn := show G246 13 = G246 13 from rfl)  (h_k := ⟨(by decide), (by decide)⟩)  ) (fun o V' hq => ?_)
                      obtain ⟨r541, rfl, rfl, b542, q543⟩ := hq
                      refine .inr ⟨_, rfl, ?_⟩
                      rcases q543 with ⟨rfl, a544, a545, a546⟩ | rfl
                      · have _q : True := trivial
                        refine jx_if_eq (pc' := 203) (tg := 221) rfl rfl rfl (by decide) (by decide) (fun h547 => ?_) (fun h547 => ?_)
                        · have _q := h547
                          exact absurd h547 (by omega)
                        · have _q := h547
                          refine jx_ld (pc' := 205) (l' := L455) (st' := [.int (i32 ((kk + (1))))]) rfl (jl_iload gL455_5) ?_
                          refine jx_ld (pc' := 206) (l' := L455) (st' := [.int (i32 (many)), .int (i32 ((kk + (1))))]) rfl (jl_iloadn gL455_3) ?_
                          refine jx_icmp_ge (pc' := 209) (tg := 230) rfl rfl rfl (by omega) (by omega) (Int.le_trans (by decide : (-2147483648 : Int) ≤ -2147483648) rx_many.1) (Int.le_trans rx_many.2 (by decide : (2147483647 : Int) ≤ 2147483647)) (fun h548 => ?_) (fun h548 => ?_)
                          · have _q := h548
                            refine jx_go (tg := 88) rfl rfl ?_
                            have z549 := tz_f (tk2_253)
                            exact ih88 _ (by omega) L455 G246 A444 (n) (many) (r248) ((kk + (1))) (at2_249) (tk2_253) (fk2_250) (nd2_252) (op2_251) (ec2_254) rfl gL455_0 gL455_1 gL455_2 gL455_3 gL455_4 gL455_5 hW445 hF446 hP448 ((e259)) ((e263)) ((e260)) ((e262)) ((e261)) (ec453) (((hF256.1 9 rfl).trans (fx_9))) (by omega) (by omega) (by omega) (by omega) (by omega) (by omega) (by omega) (by omega) (by omega) (by omega) (by omega) (by omega) (by omega) (by omega) (by omega) (by omega) (by omega) (by omega) (by omega) ((ND_sf sf449)) ((CA_eq sf450 (by omega) (by omega) (by omega) (by omega) (by omega))) (by omega) (by omega) (by omega) (by omega)
                          · have _q := h548
                            refine jx_ld (pc' := 210) (l' := L455) (st' := [.ref 66]) rfl (jl_aloadn gL455_0) ?_
                            refine jx_ar (pc' := 211) (st' := [.int (i32 (4)), .ref 66]) rfl rfl rfl rfl ?_
                            refine jx_ld (pc' := 212) (l' := L455) (st' := [.ref 66, .int (i32 (4)), .ref 66]) rfl (jl_aloadn gL455_0) ?_
                            have b550 : (-3000 : Int) ≤ G246 12 ∧ G246 12 ≤ 3002 := hW255.1 12
                            refine jr_get (pc' := 215) (i := 12) (v := .int (i32 (G246 12))) rfl rfl (by decide) rfl rfl ?_
                            refine jx_vr (pc' := 218) (as := [.int (i32 (4)), .int (i32 (G246 12))]) (st := []) rfl rfl rfl rfl ⟨rfl, rfl, Nat.le_of_ble_eq_true rfl⟩ rfl rfl (c_fail (dd := d) (hd := by omega) (hW := hW445) (kind := 4) (place := G246 12) (fk := fk2_250) (e_fk := show G246 16 = fk2_250 from (e260))  (h_kind := ⟨(by decide), (by decide)⟩) (h_place := ⟨(Int.le_trans (by decide : (-2147483648 : Int) ≤ -3000) b550.1), (Int.le_trans b550.2 (by decide : (3002 : Int) ≤ 2147483647))⟩)  (p_0 := by omega) (p_1 := by omega)) (fun o V' hq => ?_)
                            obtain ⟨G551, A552, fk2_553, rfl, rfl, hW554, hF555, e556, p557, -⟩ := hq
                            have hF559 := Fr_tr hF446 hF555 (Fr_sub (by decide)) (Fr_sub (by decide))
                            have hP560 := Pf_f hP448 hF555 (by decide)
                            have sf561 : ND A552 (n) (25) (nu) (0) (0) (0) (r248) (0) := ND_ag (by omega) (Ag_fr hF555 (by decide)) sf449
                            have sf562 : CA A552 Vs sb (n) (r248) ((kk + 1)) (pp) (n + 1) (nd2_252) := CA_ag (by omega) (Sg_fr hF555 (by decide)) (Ag_fr hF555 (by decide)) (congrFun (hF555.2 21 rfl) _) sf450
                            have sf563 : wA A552 Vs sb (pp + kk) (r248) (nd1) (nd2_252) := wA_ag (by omega) (Sg_fr hF555 (by decide)) (Ax_ag (Ag_fr hF555 (by decide))) sf451
                            have sf564 : NX A552 (r248) := NX_ag (by omega) (Ag_fr hF555 (by decide)) sf452
                            have ec565 : ecn A552 (G551 31) = ec2_254 := (ecn_f (hF555.2 15 rfl) (hF555.1 31 rfl)).trans ec453
                            have bfk2_553 : (0 : Int) ≤ fk2_553 ∧ fk2_553 ≤ 6 := e556 ▸ hW554.1 16
                            refine .inl ⟨rfl, ?_⟩
                            refine jx_go (tg := 230) rfl rfl ?_
                            refine jx_go (tg := 88) rfl rfl ?_
                            have z566 := tz_f (tk2_253)
                            exact c_readCall_w_at_88p (X := X) (d := d) (Vs := Vs) (sb := sb) (pb := pb) (c0 := c0) (c1 := c1) (G := G) (A := A) (T := T) (s := s) (ln := ln) (le := le) (at0 := at0) (fk := fk) (op0 := op0) (nd := nd) (tk0 := tk0) (li := li) (kd := kd) (nu := nu) (mp := mp) (pp := pp) (ec := ec) (hd := hd) (hW := hW) (e_ln := e_ln) (e_le := e_le) (e_at0 := e_at0) (e_fk := e_fk) (e_op0 := e_op0) (e_nd := e_nd) (e_tk0 := e_tk0) (e_li := e_li) (e_kd := e_kd) (e_nu := e_nu) (e_mp := e_mp) (e_pp := e_pp) (e_ec := e_ec) (i_SV := i_SV) (i_PQ := i_PQ) (h_s := h_s) (p_0 := p_0) (p_1 := p_1) (p_2 := p_2) (p_3 := p_3) (p_4 := p_4) (p_5 := p_5) (p_6 := p_6) (p_7 := p_7) (p_8 := p_8) L455 G551 A552 (n) (many) (r248) ((kk + (1))) (at2_249) (tk2_253) (fk2_553) (nd2_252) (op2_251) (ec2_254) gL455_0 gL455_1 gL455_2 gL455_3 gL455_4 gL455_5 hW554 hF559 hP560 (((hF555.1 10 rfl).trans (e259))) (((hF555.1 11 rfl).trans (e263))) ((e556)) (((hF555.1 31 rfl).trans (e262))) (((hF555.1 15 rfl).trans (e261))) (ec565) (((hF555.1 9 rfl).trans ((hF256.1 9 rfl).trans (fx_9)))) (by omega) (by omega) (by omega) (by omega) (by omega) (by omega) (by omega) (by omega) (by omega) (by omega) (by omega)
                      · have _q : True := trivial
                        refine jx_if_eq (pc' := 203) (tg := 221) rfl rfl rfl (by decide) (by decide) (fun h567 => ?_) (fun h567 => ?_)
                        · have _q := h567
                          refine jx_ld (pc' := 222) (l' := L455) (st' := [.ref 66]) rfl (jl_aloadn gL455_0) ?_
                          refine jx_ar (pc' := 223) (st' := [.int (i32 (1)), .ref 66]) rfl rfl rfl rfl ?_
                          refine jx_ld (pc' := 224) (l' := L455) (st' := [.ref 66, .int (i32 (1)), .ref 66]) rfl (jl_aloadn gL455_0) ?_
                          have b568 : (-3000 : Int) ≤ G246 12 ∧ G246 12 ≤ 3002 := hW255.1 12
                          refine jr_get (pc' := 227) (i := 12) (v := .int (i32 (G246 12))) rfl rfl (by decide) rfl rfl ?_
                          refine jx_vr (pc' := 230) (as := [.int (i32 (1)), .int (i32 (G246 12))]) (st := []) rfl rfl rfl rfl ⟨rfl, rfl, Nat.le_of_ble_eq_true rfl⟩ rfl rfl (c_fail (dd := d) (hd := by omega) (hW := hW445) (kind := 1) (place := G246 12) (fk := fk2_250) (e_fk := show G246 16 = fk2_250 from (e260))  (h_kind := ⟨(by decide), (by decide)⟩) (h_place := ⟨(Int.le_trans (by decide : (-2147483648 : Int) ≤ -3000) b568.1), (Int.le_trans b568.2 (by decide : (3002 : Int) ≤ 2147483647))⟩)  (p_0 := by omega) (p_1 := by omega)) (fun o V' hq => ?_)
                          obtain ⟨G569, A570, fk2_571, rfl, rfl, hW572, hF573, e574, p575, -⟩ := hq
                          have hF577 := Fr_tr hF446 hF573 (Fr_sub (by decide)) (Fr_sub (by decide))
                          have hP578 := Pf_f hP448 hF573 (by decide)
                          have sf579 : ND A570 (n) (25) (nu) (0) (0) (0) (r248) (0) := ND_ag (by omega) (Ag_fr hF573 (by decide)) sf449
                          have sf580 : CA A570 Vs sb (n) (r248) ((kk + 1)) (pp) (n + 1) (nd2_252) := CA_ag (by omega) (Sg_fr hF573 (by decide)) (Ag_fr hF573 (by decide)) (congrFun (hF573.2 21 rfl) _) sf450
                          have sf581 : wA A570 Vs sb (pp + kk) (r248) (nd1) (nd2_252) := wA_ag (by omega) (Sg_fr hF573 (by decide)) (Ax_ag (Ag_fr hF573 (by decide))) sf451
                          have sf582 : NX A570 (r248) := NX_ag (by omega) (Ag_fr hF573 (by decide)) sf452
                          have ec583 : ecn A570 (G569 31) = ec2_254 := (ecn_f (hF573.2 15 rfl) (hF573.1 31 rfl)).trans ec453
                          have bfk2_571 : (0 : Int) ≤ fk2_571 ∧ fk2_571 ≤ 6 := e574 ▸ hW572.1 16
                          refine .inl ⟨rfl, ?_⟩
                          refine jx_go (tg := 88) rfl rfl ?_
                          have z584 := tz_f (tk2_253)
                          exact c_readCall_w_at_88p (X := X) (d := d) (Vs := Vs) (sb := sb) (pb := pb) (c0 := c0) (c1 := c1) (G := G) (A := A) (T := T) (s := s) (ln := ln) (le := le) (at0 := at0) (fk := fk) (op0 := op0) (nd := nd) (tk0 := tk0) (li := li) (kd := kd) (nu := nu) (mp := mp) (pp := pp) (ec := ec) (hd := hd) (hW := hW) (e_ln := e_ln) (e_le := e_le) (e_at0 := e_at0) (e_fk := e_fk) (e_op0 := e_op0) (e_nd := e_nd) (e_tk0 := e_tk0) (e_li := e_li) (e_kd := e_kd) (e_nu := e_nu) (e_mp := e_mp) (e_pp := e_pp) (e_ec := e_ec) (i_SV := i_SV) (i_PQ := i_PQ) (h_s := h_s) (p_0 := p_0) (p_1 := p_1) (p_2 := p_2) (p_3 := p_3) (p_4 := p_4) (p_5 := p_5) (p_6 := p_6) (p_7 := p_7) (p_8 := p_8) L455 G569 A570 (n) (many) (r248) ((kk + (1))) (at2_249) (tk2_253) (fk2_571) (nd2_252) (op2_251) (ec2_254) gL455_0 gL455_1 gL455_2 gL455_3 gL455_4 gL455_5 hW572 hF577 hP578 (((hF573.1 10 rfl).trans (e259))) (((hF573.1 11 rfl).trans (e263))) ((e574)) (((hF573.1 31 rfl).trans (e262))) (((hF573.1 15 rfl).trans (e261))) (ec583) (((hF573.1 9 rfl).trans ((hF256.1 9 rfl).trans (fx_9)))) (by omega) (by omega) (by omega) (by omega) (by omega) (by omega) (by omega) (by omega) (by omega) (by omega) (by omega)
                        · have _q := h567
                          exact absurd h567 (by omega)
                    · have _q := h540
                      exact absurd h540 (by omega)
              · have _q := h301
                exact absurd h301 (by omega)
set_option maxRecDepth 20000 in
set_option maxHeartbeats 4000000 in
theorem c_readCall_w_at_57 {X : jX} {d : Nat} {Vs : Nat → Prop} {sb pb : Int} {c0 c1 : jC} {G : Nat → Int} {A : Nat → Nat → Int} {T : jH} {s : Int} {ln le at0 fk op0 nd tk0 li kd nu mp pp ec : Int} (hd : 71 ≤ d + 1) (hW : Wk G A) (e_ln : G 9 = ln) (e_le : A 4 (ln).toNat = le) (e_at0 : G 10 = at0) (e_fk : G 16 = fk) (e_op0 : G 15 = op0) (e_nd : G 31 = nd) (e_tk0 : G 11 = tk0) (e_li : G 3 = li) (e_kd : A 7 (s).toNat = kd) (e_nu : A 12 (s).toNat = nu) (e_mp : A 30 (nu).toNat = mp) (e_pp : A 29 (nu).toNat = pp) (e_ec : ecn A (G 31) = ec) (i_SV : SV Vs sb G A) (i_PQ : PQ Vs sb pb G A) (h_s : (-2147483648 : Int) ≤ s ∧ s ≤ 2147483647) (p_0 : 0 ≤ op0 ∧ op0 ≤ 8) (p_1 : fk = 0) (p_2 : nd ≤ 2 * at0 - tz tk0 + 42) (p_3 : at0 ≤ le) (p_4 : ln < li) (p_5 : 0 ≤ s ∧ s ≤ 201) (p_6 : 1 ≤ tk0) (p_7 : kd = 14) (p_8 : SY Vs sb (s)) : ∀ (L : jL) (Gx : Nat → Int) (Ax : Nat → Nat → Int) (n many at1 tk1 fk1 nd1 op1 ec1 : Int), jGet L 0 = some (.ref 66) → jGet L 1 = some (.int (i32 (s))) → jGet L 2 = some (.int (i32 n)) → jGet L 3 = some (.int (i32 many)) → Wk Gx Ax → Fr [9, 10, 11, 12, 13, 14, 15, 16, 17, 18, 31] [15, 16, 17, 18, 19, 20, 21, 22, 24, 28] G A Gx Ax → Pf nd A Ax → Gx 10 = at1 → Gx 11 = tk1 → Gx 16 = fk1 → Gx 31 = nd1 → Gx 15 = op1 → ecn Ax (Gx 31) = ec1 → Gx 9 = ln → ((-2147483648 : Int) ≤ n ∧ n ≤ 2147483647) → ((-2147483648 : Int) ≤ many ∧ many ≤ 2147483647) → (fk1 = 0) → (at0 ≤ at1) → (at1 ≤ le) → (nd ≤ n ∧ n ≤ 6998) → (nd ≤ nd1 ∧ n < nd1) → (0 ≤ many ∧ many ≤ 6) → (op1 = op0 + 1) → (op1 ≤ 8) → (nd1 - nd ≤ (2 * at1 - tz tk1) - (2 * at0 - tz tk0)) → (many = mp) → (1 ≤ many) → (nd1 = n + 1) → (ND Ax (n) (25) (nu) (0) (0) (0) (0) (0)) → (nd + 5 * ec ≤ n ∧ n ≤ 6998) → (nd + 5 * ec ≤ nd1 ∧ n < nd1) → (nd1 - nd + 5 * (ec1 - ec) ≤ (2 * at1 - tz tk1) - (2 * at0 - tz tk0)) → wj X d jm305 (57, L, [], rV c0 c1 Gx Ax T) (fun o V' => ∃ (G' : Nat → Int) (A' : Nat → Nat → Int) (r : Int) (at2 : Int) (fk2 : Int) (nd2 : Int) (ln2 : Int) (ec2 : Int), V' = rV c0 c1 G' A' T ∧ o = .inl (some (.int (i32 r))) ∧ Wk G' A' ∧ Fr [9, 10, 11, 12, 13, 14, 15, 16, 17, 18, 31] [15, 16, 17, 18, 19, 20, 21, 22, 24, 28] G A G' A' ∧ Pf nd A A' ∧ ((-2147483648 : Int) ≤ r ∧ r ≤ 2147483647) ∧ G' 10 = at2 ∧ G' 16 = fk2 ∧ G' 31 = nd2 ∧ G' 9 = ln2 ∧ ecn A' (G' 31) = ec2 ∧ (at0 ≤ at2) ∧ (at2 ≤ le) ∧ (nd ≤ nd2) ∧ (0 ≤ r) ∧ (r ≤ nd2) ∧ (((1 ≤ fk2) ∧ (ln2 = ln) ∧ (nd2 - nd ≤ 2 * at2 - 2 * at0 + 8)) ∨ ((fk2 = 0) ∧ (ln2 = ln + 1) ∧ (nd2 - nd ≤ 2 * at2 - (2 * at0 - tz tk0) + 0) ∧ (nd ≤ r) ∧ (r < nd2) ∧ (wL A' sb pb Vs (r) (nd) (nd2)) ∧ (NX A' (r)) ∧ (nd2 - nd + 5 * (ec2 - ec) ≤ 2 * at2 - (2 * at0 - tz tk0) + 0) ∧ (nd + 5 * ec ≤ r)))) := by
  have hF0 : Fr [9, 10, 11, 12, 13, 14, 15, 16, 17, 18, 31] [15, 16, 17, 18, 19, 20, 21, 22, 24, 28] G A G A := Fr_rf
  have hP0 : Pf nd A A := Pf_rf
  have b_ln : (0 : Int) ≤ ln ∧ ln ≤ 3000 := e_ln ▸ hW.1 9
  have b_le : (0 : Int) ≤ le ∧ le ≤ 3000 := e_le ▸ hW.2 4 _
  have b_at0 : (0 : Int) ≤ at0 ∧ at0 ≤ 3002 := e_at0 ▸ hW.1 10
  have b_fk : (0 : Int) ≤ fk ∧ fk ≤ 6 := e_fk ▸ hW.1 16
  have b_op0 : (-2147483648 : Int) ≤ op0 ∧ op0 ≤ 2147483647 := e_op0 ▸ hW.1 15
  have b_nd : (0 : Int) ≤ nd ∧ nd ≤ 6999 := e_nd ▸ hW.1 31
  have z_tk0 := tz_f tk0
  have b_tk0 : (0 : Int) ≤ tk0 ∧ tk0 ≤ 5 := e_tk0 ▸ hW.1 11
  have b_li : (0 : Int) ≤ li ∧ li ≤ 3000 := e_li ▸ hW.1 3
  have b_kd : (0 : Int) ≤ kd ∧ kd ≤ 14 := e_kd ▸ hW.2 7 _
  have b_nu : (0 : Int) ≤ nu ∧ nu ≤ 24 := e_nu ▸ hW.2 12 _
  have b_mp : (0 : Int) ≤ mp ∧ mp ≤ 6 := e_mp ▸ hW.2 30 _
  have b_pp : (0 : Int) ≤ pp ∧ pp ≤ 202 := e_pp ▸ hW.2 29 _
  have pq := PQ_at i_PQ p_8 (e_kd.trans (by omega)) e_nu e_mp e_pp
  intro L Gx Ax n many at1 tk1 fk1 nd1 op1 ec1 gL_0 gL_1 gL_2 gL_3 hWx hFx hPx ex_at1 ex_tk1 ex_fk1 ex_nd1 ex_op1 ex_ec1 fx_9 rx_n rx_many iv_0 iv_1 iv_2 iv_3 iv_4 iv_5 iv_6 iv_7 iv_8 iv_9 iv_10 iv_11 iv_12 iv_13 iv_14 iv_15
  have b_at1 : (0 : Int) ≤ at1 ∧ at1 ≤ 3002 := ex_at1 ▸ hWx.1 10
  have z_tk1 := tz_f tk1
  have b_tk1 : (0 : Int) ≤ tk1 ∧ tk1 ≤ 5 := ex_tk1 ▸ hWx.1 11
  have b_fk1 : (0 : Int) ≤ fk1 ∧ fk1 ≤ 6 := ex_fk1 ▸ hWx.1 16
  have b_nd1 : (0 : Int) ≤ nd1 ∧ nd1 ≤ 6999 := ex_nd1 ▸ hWx.1 31
  have b_op1 : (-2147483648 : Int) ≤ op1 ∧ op1 ≤ 2147483647 := ex_op1 ▸ hWx.1 15
  refine jx_ld (pc' := 58) (l' := L) (st' := [.ref 66]) rfl (jl_aloadn gL_0) ?_
  refine jx_vr (pc' := 61) (as := []) (st := []) rfl rfl rfl rfl ⟨rfl, rfl, Nat.le_of_ble_eq_true rfl⟩ rfl rfl (c_bad (dd := d) (hd := by omega) (hW := hWx)  (fk := fk1) (e_fk := show Gx 16 = fk1 from (ex_fk1))    ) (fun o V' hq => ?_)
  obtain ⟨r585, rfl, rfl, b586, q587⟩ := hq
  refine .inr ⟨_, rfl, ?_⟩
  rcases q587 with ⟨rfl, a588⟩ | ⟨rfl, a589⟩
  · have _q : True := trivial
    exfalso
    omega
  · have _q : True := trivial
    refine jx_if_ne (pc' := 64) (tg := 82) rfl rfl rfl (by decide) (by decide) (fun h590 => ?_) (fun h590 => ?_)
    · have _q := h590
      exact absurd h590 (by omega)
    · have _q := h590
      refine jx_ld (pc' := 65) (l' := L) (st' := [.ref 66]) rfl (jl_aloadn gL_0) ?_
      refine jx_ar (pc' := 67) (st' := [.int (i32 (41)), .ref 66]) rfl rfl rfl rfl ?_
      have b591 : (-2147483648 : Int) ≤ Gx 13 ∧ Gx 13 ≤ 2147483647 := hWx.1 13
      refine jx_vr (pc' := 70) (as := [.int (i32 (41))]) (st := []) rfl rfl rfl rfl ⟨rfl, rfl, Nat.le_of_ble_eq_true rfl⟩ rfl rfl (c_is (dd := d) (hd := by omega) (hW := hWx) (k := 41) (tk := tk1) (e_tk := show Gx 11 = tk1 from (ex_tk1)) (tn := Gx 13) (e_tn := show Gx 13 = Gx 13 from rfl)  (h_k := ⟨(by decide), (by decide)⟩)  ) (fun o V' hq => ?_)
      obtain ⟨r592, rfl, rfl, b593, q594⟩ := hq
      refine .inr ⟨_, rfl, ?_⟩
      rcases q594 with ⟨rfl, a595, a596, a597⟩ | rfl
      · have _q : True := trivial
        refine jx_if_eq (pc' := 73) (tg := 82) rfl rfl rfl (by decide) (by decide) (fun h598 => ?_) (fun h598 => ?_)
        · have _q := h598
          exact absurd h598 (by omega)
        · have _q := h598
          refine jx_ld (pc' := 74) (l' := L) (st' := [.ref 66]) rfl (jl_aloadn gL_0) ?_
          refine jx_ar (pc' := 75) (st' := [.int (i32 (4)), .ref 66]) rfl rfl rfl rfl ?_
          refine jx_ld (pc' := 76) (l' := L) (st' := [.ref 66, .int (i32 (4)), .ref 66]) rfl (jl_aloadn gL_0) ?_
          have b599 : (-3000 : Int) ≤ Gx 12 ∧ Gx 12 ≤ 3002 := hWx.1 12
          refine jr_get (pc' := 79) (i := 12) (v := .int (i32 (Gx 12))) rfl rfl (by decide) rfl rfl ?_
          refine jx_vr (pc' := 82) (as := [.int (i32 (4)), .int (i32 (Gx 12))]) (st := []) rfl rfl rfl rfl ⟨rfl, rfl, Nat.le_of_ble_eq_true rfl⟩ rfl rfl (c_fail (dd := d) (hd := by omega) (hW := hWx) (kind := 4) (place := Gx 12) (fk := fk1) (e_fk := show Gx 16 = fk1 from (ex_fk1))  (h_kind := ⟨(by decide), (by decide)⟩) (h_place := ⟨(Int.le_trans (by decide : (-2147483648 : Int) ≤ -3000) b599.1), (Int.le_trans b599.2 (by decide : (3002 : Int) ≤ 2147483647))⟩)  (p_0 := by omega) (p_1 := by omega)) (fun o V' hq => ?_)
          obtain ⟨G600, A601, fk2_602, rfl, rfl, hW603, hF604, e605, p606, -⟩ := hq
          have hF608 := Fr_tr hFx hF604 (Fr_sub (by decide)) (Fr_sub (by decide))
          have hP609 := Pf_f hPx hF604 (by decide)
          have sf610 : ND A601 (n) (25) (nu) (0) (0) (0) (0) (0) := ND_ag (by omega) (Ag_fr hF604 (by decide)) iv_12
          have ec611 : ecn A601 (G600 31) = ec1 := (ecn_f (hF604.2 15 rfl) (hF604.1 31 rfl)).trans ex_ec1
          have bfk2_602 : (0 : Int) ≤ fk2_602 ∧ fk2_602 ≤ 6 := e605 ▸ hW603.1 16
          refine .inl ⟨rfl, ?_⟩
          refine jx_ar (pc' := 83) (st' := [.int (i32 (0))]) rfl rfl rfl rfl ?_
          refine jx_ld (pc' := 85) (l' := jSto1 L 4 (.int (i32 (0)))) (st' := []) rfl rfl ?_
          obtain ⟨L612, eL612⟩ : ∃ q, q = jSto1 L 4 (.int (i32 (0))) := ⟨_, rfl⟩
          rw [← eL612]
          have gL612_0 : jGet L612 0 = some (.ref 66) := eL612 ▸ jg_ne (by decide) gL_0 rfl
          have gL612_1 : jGet L612 1 = some (.int (i32 (s))) := eL612 ▸ jg_ne (by decide) gL_1 rfl
          have gL612_2 : jGet L612 2 = some (.int (i32 (n))) := eL612 ▸ jg_ne (by decide) gL_2 rfl
          have gL612_3 : jGet L612 3 = some (.int (i32 (many))) := eL612 ▸ jg_ne (by decide) gL_3 rfl
          have gL612_4 : jGet L612 4 = some (.int (i32 (0))) := eL612 ▸ jg_eq
          refine jx_ar (pc' := 86) (st' := [.int (i32 (0))]) rfl rfl rfl rfl ?_
          refine jx_ld (pc' := 88) (l' := jSto1 L612 5 (.int (i32 (0)))) (st' := []) rfl rfl ?_
          obtain ⟨L613, eL613⟩ : ∃ q, q = jSto1 L612 5 (.int (i32 (0))) := ⟨_, rfl⟩
          rw [← eL613]
          have gL613_0 : jGet L613 0 = some (.ref 66) := eL613 ▸ jg_ne (by decide) gL612_0 rfl
          have gL613_1 : jGet L613 1 = some (.int (i32 (s))) := eL613 ▸ jg_ne (by decide) gL612_1 rfl
          have gL613_2 : jGet L613 2 = some (.int (i32 (n))) := eL613 ▸ jg_ne (by decide) gL612_2 rfl
          have gL613_3 : jGet L613 3 = some (.int (i32 (many))) := eL613 ▸ jg_ne (by decide) gL612_3 rfl
          have gL613_4 : jGet L613 4 = some (.int (i32 (0))) := eL613 ▸ jg_ne (by decide) gL612_4 rfl
          have gL613_5 : jGet L613 5 = some (.int (i32 (0))) := eL613 ▸ jg_eq
          have z614 := tz_f (tk1)
          exact c_readCall_w_at_88p (X := X) (d := d) (Vs := Vs) (sb := sb) (pb := pb) (c0 := c0) (c1 := c1) (G := G) (A := A) (T := T) (s := s) (ln := ln) (le := le) (at0 := at0) (fk := fk) (op0 := op0) (nd := nd) (tk0 := tk0) (li := li) (kd := kd) (nu := nu) (mp := mp) (pp := pp) (ec := ec) (hd := hd) (hW := hW) (e_ln := e_ln) (e_le := e_le) (e_at0 := e_at0) (e_fk := e_fk) (e_op0 := e_op0) (e_nd := e_nd) (e_tk0 := e_tk0) (e_li := e_li) (e_kd := e_kd) (e_nu := e_nu) (e_mp := e_mp) (e_pp := e_pp) (e_ec := e_ec) (i_SV := i_SV) (i_PQ := i_PQ) (h_s := h_s) (p_0 := p_0) (p_1 := p_1) (p_2 := p_2) (p_3 := p_3) (p_4 := p_4) (p_5 := p_5) (p_6 := p_6) (p_7 := p_7) (p_8 := p_8) L613 G600 A601 (n) (many) (0) (0) (at1) (tk1) (fk2_602) (nd1) (op1) (ec1) gL613_0 gL613_1 gL613_2 gL613_3 gL613_4 gL613_5 hW603 hF608 hP609 (((hF604.1 10 rfl).trans (ex_at1))) (((hF604.1 11 rfl).trans (ex_tk1))) ((e605)) (((hF604.1 31 rfl).trans (ex_nd1))) (((hF604.1 15 rfl).trans (ex_op1))) (ec611) (((hF604.1 9 rfl).trans (fx_9))) (by omega) (by omega) (by omega) (by omega) (by omega) (by omega) (by omega) (by omega) (by omega) (by omega) (by omega)
      · have _q : True := trivial
        refine jx_if_eq (pc' := 73) (tg := 82) rfl rfl rfl (by decide) (by decide) (fun h615 => ?_) (fun h615 => ?_)
        · have _q := h615
          refine jx_ar (pc' := 83) (st' := [.int (i32 (0))]) rfl rfl rfl rfl ?_
          refine jx_ld (pc' := 85) (l' := jSto1 L 4 (.int (i32 (0)))) (st' := []) rfl rfl ?_
          obtain ⟨L616, eL616⟩ : ∃ q, q = jSto1 L 4 (.int (i32 (0))) := ⟨_, rfl⟩
          rw [← eL616]
          have gL616_0 : jGet L616 0 = some (.ref 66) := eL616 ▸ jg_ne (by decide) gL_0 rfl
          have gL616_1 : jGet L616 1 = some (.int (i32 (s))) := eL616 ▸ jg_ne (by decide) gL_1 rfl
          have gL616_2 : jGet L616 2 = some (.int (i32 (n))) := eL616 ▸ jg_ne (by decide) gL_2 rfl
          have gL616_3 : jGet L616 3 = some (.int (i32 (many))) := eL616 ▸ jg_ne (by decide) gL_3 rfl
          have gL616_4 : jGet L616 4 = some (.int (i32 (0))) := eL616 ▸ jg_eq
          refine jx_ar (pc' := 86) (st' := [.int (i32 (0))]) rfl rfl rfl rfl ?_
          refine jx_ld (pc' := 88) (l' := jSto1 L616 5 (.int (i32 (0)))) (st' := []) rfl rfl ?_
          obtain ⟨L617, eL617⟩ : ∃ q, q = jSto1 L616 5 (.int (i32 (0))) := ⟨_, rfl⟩
          rw [← eL617]
          have gL617_0 : jGet L617 0 = some (.ref 66) := eL617 ▸ jg_ne (by decide) gL616_0 rfl
          have gL617_1 : jGet L617 1 = some (.int (i32 (s))) := eL617 ▸ jg_ne (by decide) gL616_1 rfl
          have gL617_2 : jGet L617 2 = some (.int (i32 (n))) := eL617 ▸ jg_ne (by decide) gL616_2 rfl
          have gL617_3 : jGet L617 3 = some (.int (i32 (many))) := eL617 ▸ jg_ne (by decide) gL616_3 rfl
          have gL617_4 : jGet L617 4 = some (.int (i32 (0))) := eL617 ▸ jg_ne (by decide) gL616_4 rfl
          have gL617_5 : jGet L617 5 = some (.int (i32 (0))) := eL617 ▸ jg_eq
          have z618 := tz_f (tk1)
          exact c_readCall_w_at_88 (X := X) (d := d) (Vs := Vs) (sb := sb) (pb := pb) (c0 := c0) (c1 := c1) (G := G) (A := A) (T := T) (s := s) (ln := ln) (le := le) (at0 := at0) (fk := fk) (op0 := op0) (nd := nd) (tk0 := tk0) (li := li) (kd := kd) (nu := nu) (mp := mp) (pp := pp) (ec := ec) (hd := hd) (hW := hW) (e_ln := e_ln) (e_le := e_le) (e_at0 := e_at0) (e_fk := e_fk) (e_op0 := e_op0) (e_nd := e_nd) (e_tk0 := e_tk0) (e_li := e_li) (e_kd := e_kd) (e_nu := e_nu) (e_mp := e_mp) (e_pp := e_pp) (e_ec := e_ec) (i_SV := i_SV) (i_PQ := i_PQ) (h_s := h_s) (p_0 := p_0) (p_1 := p_1) (p_2 := p_2) (p_3 := p_3) (p_4 := p_4) (p_5 := p_5) (p_6 := p_6) (p_7 := p_7) (p_8 := p_8) _ L617 Gx Ax (n) (many) (0) (0) (at1) (tk1) (fk1) (nd1) (op1) (ec1) rfl gL617_0 gL617_1 gL617_2 gL617_3 gL617_4 gL617_5 hWx hFx hPx ((ex_at1)) ((ex_tk1)) ((ex_fk1)) ((ex_nd1)) ((ex_op1)) (ex_ec1) ((fx_9)) (by omega) (by omega) (by omega) (by omega) (by omega) (by omega) (by omega) (by omega) (by omega) (by omega) (by omega) (by omega) (by omega) (by omega) (by omega) (by omega) (by omega) (by omega) (by omega) ((ND_sf iv_12)) ((CA_eq (CA_nil (lo := n + 1) (ND_f0 iv_12)) (by omega) (by omega) (by omega) (by omega) (by omega))) (by omega) (by omega) (by omega) (by omega)
        · have _q := h615
          exact absurd h615 (by omega)
set_option maxRecDepth 20000 in
set_option maxHeartbeats 4000000 in
theorem c_readCall_w {X : jX} {dd : Nat} {Vs : Nat → Prop} {sb pb : Int} {c0 c1 : jC} {G : Nat → Int} {A : Nat → Nat → Int} {T : jH} {s : Int} {ln le at0 fk op0 nd tk0 li kd nu mp pp ec : Int} (hd : 71 ≤ dd) (hW : Wk G A) (e_ln : G 9 = ln) (e_le : A 4 (ln).toNat = le) (e_at0 : G 10 = at0) (e_fk : G 16 = fk) (e_op0 : G 15 = op0) (e_nd : G 31 = nd) (e_tk0 : G 11 = tk0) (e_li : G 3 = li) (e_kd : A 7 (s).toNat = kd) (e_nu : A 12 (s).toNat = nu) (e_mp : A 30 (nu).toNat = mp) (e_pp : A 29 (nu).toNat = pp) (e_ec : ecn A (G 31) = ec) (i_SV : SV Vs sb G A) (i_PQ : PQ Vs sb pb G A) (h_s : (-2147483648 : Int) ≤ s ∧ s ≤ 2147483647) (p_0 : 0 ≤ op0 ∧ op0 ≤ 8) (p_1 : fk = 0) (p_2 : nd ≤ 2 * at0 - tz tk0 + 42) (p_3 : at0 ≤ le) (p_4 : ln < li) (p_5 : 0 ≤ s ∧ s ≤ 201) (p_6 : 1 ≤ tk0) (p_7 : kd = 14) (p_8 : SY Vs sb (s)) : wk X dd 305 [.ref 66, .int (i32 s)] (rV c0 c1 G A T) (fun o V' => ∃ (G' : Nat → Int) (A' : Nat → Nat → Int) (r : Int) (at2 : Int) (fk2 : Int) (nd2 : Int) (ln2 : Int) (ec2 : Int), V' = rV c0 c1 G' A' T ∧ o = .inl (some (.int (i32 r))) ∧ Wk G' A' ∧ Fr [9, 10, 11, 12, 13, 14, 15, 16, 17, 18, 31] [15, 16, 17, 18, 19, 20, 21, 22, 24, 28] G A G' A' ∧ Pf nd A A' ∧ ((-2147483648 : Int) ≤ r ∧ r ≤ 2147483647) ∧ G' 10 = at2 ∧ G' 16 = fk2 ∧ G' 31 = nd2 ∧ G' 9 = ln2 ∧ ecn A' (G' 31) = ec2 ∧ (at0 ≤ at2) ∧ (at2 ≤ le) ∧ (nd ≤ nd2) ∧ (0 ≤ r) ∧ (r ≤ nd2) ∧ (((1 ≤ fk2) ∧ (ln2 = ln) ∧ (nd2 - nd ≤ 2 * at2 - 2 * at0 + 8)) ∨ ((fk2 = 0) ∧ (ln2 = ln + 1) ∧ (nd2 - nd ≤ 2 * at2 - (2 * at0 - tz tk0) + 0) ∧ (nd ≤ r) ∧ (r < nd2) ∧ (wL A' sb pb Vs (r) (nd) (nd2)) ∧ (NX A' (r)) ∧ (nd2 - nd + 5 * (ec2 - ec) ≤ 2 * at2 - (2 * at0 - tz tk0) + 0) ∧ (nd + 5 * ec ≤ r)))) := by
  obtain ⟨d, rfl⟩ : ∃ d, dd = d + 1 := ⟨dd - 1, by omega⟩
  refine wk_of (e := jm305) rfl (Nat.le_of_ble_eq_true rfl) ?_
  show wj X d jm305 (0, [(0, .ref 66), (1, .int (i32 (s)))], [], rV c0 c1 G A T) _
  have hF0 : Fr [9, 10, 11, 12, 13, 14, 15, 16, 17, 18, 31] [15, 16, 17, 18, 19, 20, 21, 22, 24, 28] G A G A := Fr_rf
  have hP0 : Pf nd A A := Pf_rf
  have b_ln : (0 : Int) ≤ ln ∧ ln ≤ 3000 := e_ln ▸ hW.1 9
  have b_le : (0 : Int) ≤ le ∧ le ≤ 3000 := e_le ▸ hW.2 4 _
  have b_at0 : (0 : Int) ≤ at0 ∧ at0 ≤ 3002 := e_at0 ▸ hW.1 10
  have b_fk : (0 : Int) ≤ fk ∧ fk ≤ 6 := e_fk ▸ hW.1 16
  have b_op0 : (-2147483648 : Int) ≤ op0 ∧ op0 ≤ 2147483647 := e_op0 ▸ hW.1 15
  have b_nd : (0 : Int) ≤ nd ∧ nd ≤ 6999 := e_nd ▸ hW.1 31
  have z_tk0 := tz_f tk0
  have b_tk0 : (0 : Int) ≤ tk0 ∧ tk0 ≤ 5 := e_tk0 ▸ hW.1 11
  have b_li : (0 : Int) ≤ li ∧ li ≤ 3000 := e_li ▸ hW.1 3
  have b_kd : (0 : Int) ≤ kd ∧ kd ≤ 14 := e_kd ▸ hW.2 7 _
  have b_nu : (0 : Int) ≤ nu ∧ nu ≤ 24 := e_nu ▸ hW.2 12 _
  have b_mp : (0 : Int) ≤ mp ∧ mp ≤ 6 := e_mp ▸ hW.2 30 _
  have b_pp : (0 : Int) ≤ pp ∧ pp ≤ 202 := e_pp ▸ hW.2 29 _
  have pq := PQ_at i_PQ p_8 (e_kd.trans (by omega)) e_nu e_mp e_pp
  refine jx_ld (pc' := 1) (l' := [(0, .ref 66), (1, .int (i32 (s)))]) (st' := [.ref 66]) rfl (jl_aloadn rfl) ?_
  refine jx_ar (pc' := 3) (st' := [.int (i32 (25)), .ref 66]) rfl rfl rfl rfl ?_
  refine jx_ld (pc' := 4) (l' := [(0, .ref 66), (1, .int (i32 (s)))]) (st' := [.ref 66, .int (i32 (25)), .ref 66]) rfl (jl_aloadn rfl) ?_
  refine jr_get (pc' := 7) (i := 26) (v := .ref 79) rfl rfl (by decide) rfl rfl ?_
  refine jx_ld (pc' := 8) (l' := [(0, .ref 66), (1, .int (i32 (s)))]) (st' := [.int (i32 (s)), .ref 79, .int (i32 (25)), .ref 66]) rfl (jl_iloadn rfl) ?_
  refine jr_ldv (pc' := 9) (i := 12) (m := 260) (z := s) (y := nu) rfl (by decide) rfl (by decide) (by omega) (by omega) rfl (show A 12 (s).toNat = nu from (e_nu)) ?_
  refine jx_ar (pc' := 10) (st' := [.int (i32 (0)), .int (i32 (nu)), .int (i32 (25)), .ref 66]) rfl rfl rfl rfl ?_
  refine jx_ar (pc' := 11) (st' := [.int (i32 (0)), .int (i32 (0)), .int (i32 (nu)), .int (i32 (25)), .ref 66]) rfl rfl rfl rfl ?_
  refine jx_ar (pc' := 12) (st' := [.int (i32 (0)), .int (i32 (0)), .int (i32 (0)), .int (i32 (nu)), .int (i32 (25)), .ref 66]) rfl rfl rfl rfl ?_
  refine jx_vr (pc' := 15) (as := [.int (i32 (25)), .int (i32 (nu)), .int (i32 (0)), .int (i32 (0)), .int (i32 (0))]) (st := []) rfl rfl rfl rfl ⟨rfl, rfl, Nat.le_of_ble_eq_true rfl⟩ rfl rfl (c_node_o (dd := d) (hd := by omega) (hW := hW) (kind := 25) (a := nu) (b := 0) (c := 0) (e := 0) (nd := nd) (e_nd := show G 31 = nd from (e_nd)) (ec := ec) (e_ec := show ecn A (G 31) = ec from e_ec)  (h_kind := ⟨(by decide), (by decide)⟩) (h_a := ⟨(Int.le_trans (by decide : (-2147483648 : Int) ≤ 0) b_nu.1), (Int.le_trans b_nu.2 (by decide : (24 : Int) ≤ 2147483647))⟩) (h_b := ⟨(by decide), (by decide)⟩) (h_c := ⟨(by decide), (by decide)⟩) (h_e := ⟨(by decide), (by decide)⟩)  (p_0 := by omega) (p_1 := by omega) (p_2 := by omega)) (fun o V' hq => ?_)
  obtain ⟨G619, A620, nd2_621, ec2_622, rfl, rfl, hW623, hF624, hQ625, e626, e627, p628, p629, p630, -⟩ := hq
  have hF632 := Fr_tr hF0 hF624 (Fr_sub (by decide)) (Fr_sub (by decide))
  have hP633 := Pf_tr hP0 hQ625 (by omega)
  have bnd2_621 : (0 : Int) ≤ nd2_621 ∧ nd2_621 ≤ 6999 := e626 ▸ hW623.1 31
  refine .inr ⟨_, rfl, ?_⟩
  refine jx_ld (pc' := 16) (l' := jSto1 [(0, .ref 66), (1, .int (i32 (s)))] 2 (.int (i32 (nd)))) (st' := []) rfl rfl ?_
  obtain ⟨L634, eL634⟩ : ∃ q, q = jSto1 [(0, .ref 66), (1, .int (i32 (s)))] 2 (.int (i32 (nd))) := ⟨_, rfl⟩
  rw [← eL634]
  have gL634_0 : jGet L634 0 = some (.ref 66) := eL634 ▸ jg_ne (by decide) (rfl : jGet [(0, .ref 66), (1, .int (i32 (s)))] 0 = some (.ref 66)) rfl
  have gL634_1 : jGet L634 1 = some (.int (i32 (s))) := eL634 ▸ jg_ne (by decide) (rfl : jGet [(0, .ref 66), (1, .int (i32 (s)))] 1 = some (.int (i32 (s)))) rfl
  have gL634_2 : jGet L634 2 = some (.int (i32 (nd))) := eL634 ▸ jg_eq
  refine jx_ld (pc' := 17) (l' := L634) (st' := [.ref 66]) rfl (jl_aloadn gL634_0) ?_
  refine jr_get (pc' := 20) (i := 48) (v := .ref 97) rfl rfl (by decide) rfl rfl ?_
  refine jx_ld (pc' := 21) (l' := L634) (st' := [.ref 66, .ref 97]) rfl (jl_aloadn gL634_0) ?_
  refine jr_get (pc' := 24) (i := 26) (v := .ref 79) rfl rfl (by decide) rfl rfl ?_
  refine jx_ld (pc' := 25) (l' := L634) (st' := [.int (i32 (s)), .ref 79, .ref 97]) rfl (jl_iloadn gL634_1) ?_
  refine jr_ldv (pc' := 26) (i := 12) (m := 260) (z := s) (y := nu) rfl (by decide) rfl (by decide) (by omega) (by omega) rfl (show A620 12 (s).toNat = nu from (congrFun (hF624.2 12 rfl) _).trans (e_nu)) ?_
  refine jr_ldv (pc' := 27) (i := 30) (m := 25) (z := nu) (y := mp) rfl (by decide) rfl (by decide) (Int.le_trans (by decide : (0 : Int) ≤ 0) b_nu.1) (Int.lt_of_le_of_lt b_nu.2 (by decide : (24 : Int) < ((25 : Nat) : Int))) rfl (show A620 30 (nu).toNat = mp from (congrFun (hF624.2 30 rfl) _).trans (e_mp)) ?_
  refine jx_ld (pc' := 28) (l' := jSto1 L634 3 (.int (i32 (mp)))) (st' := []) rfl rfl ?_
  obtain ⟨L635, eL635⟩ : ∃ q, q = jSto1 L634 3 (.int (i32 (mp))) := ⟨_, rfl⟩
  rw [← eL635]
  have gL635_0 : jGet L635 0 = some (.ref 66) := eL635 ▸ jg_ne (by decide) gL634_0 rfl
  have gL635_1 : jGet L635 1 = some (.int (i32 (s))) := eL635 ▸ jg_ne (by decide) gL634_1 rfl
  have gL635_2 : jGet L635 2 = some (.int (i32 (nd))) := eL635 ▸ jg_ne (by decide) gL634_2 rfl
  have gL635_3 : jGet L635 3 = some (.int (i32 (mp))) := eL635 ▸ jg_eq
  refine jx_ld (pc' := 29) (l' := L635) (st' := [.ref 66]) rfl (jl_aloadn gL635_0) ?_
  refine jx_vr (pc' := 32) (as := []) (st := []) rfl rfl rfl rfl ⟨rfl, rfl, Nat.le_of_ble_eq_true rfl⟩ rfl rfl (c_open (dd := d) (hd := by omega) (hW := hW623)  (fk := fk) (e_fk := show G619 16 = fk from ((hF624.1 16 rfl).trans (e_fk))) (op0 := op0) (e_op0 := show G619 15 = op0 from ((hF624.1 15 rfl).trans (e_op0)))    (p_0 := by omega)) (fun o V' hq => ?_)
  obtain ⟨G636, A637, fk2_638, op2_639, rfl, rfl, hW640, hF641, e642, e643, p644, q645⟩ := hq
  have hF646 := Fr_tr hF632 hF641 (Fr_sub (by decide)) (Fr_sub (by decide))
  have hP647 := Pf_f hP633 hF641 (by decide)
  have sf648 : ND A637 (nd) (25) (nu) (0) (0) (0) (0) (0) := ND_ag (by omega) (Ag_fr hF641 (by decide)) p630
  have ec649 : ecn A637 (G636 31) = ec2_622 := (ecn_f (hF641.2 15 rfl) (hF641.1 31 rfl)).trans e627
  have bfk2_638 : (0 : Int) ≤ fk2_638 ∧ fk2_638 ≤ 6 := e642 ▸ hW640.1 16
  have bop2_639 : (-2147483648 : Int) ≤ op2_639 ∧ op2_639 ≤ 2147483647 := e643 ▸ hW640.1 15
  refine .inl ⟨rfl, ?_⟩
  rcases q645 with a650 | ⟨a651, a652, a653⟩
  · have _q : True := trivial
    refine jx_ld (pc' := 33) (l' := L635) (st' := [.ref 66]) rfl (jl_aloadn gL635_0) ?_
    refine jx_ar (pc' := 34) (st' := [.int (i32 (1)), .ref 66]) rfl rfl rfl rfl ?_
    refine jx_vr (pc' := 37) (as := [.int (i32 (1))]) (st := []) rfl rfl rfl rfl ⟨rfl, rfl, Nat.le_of_ble_eq_true rfl⟩ rfl rfl (c_need (dd := d) (hd := by omega) (hW := hW640) (g := 1) (ln := ln) (e_ln := show G636 9 = ln from ((hF641.1 9 rfl).trans ((hF624.1 9 rfl).trans (e_ln)))) (le := le) (e_le := show A637 4 (ln).toNat = le from (congrFun ((hF641.2 4 rfl).trans (hF624.2 4 rfl)) _).trans (e_le)) (at0 := at0) (e_at0 := show G636 10 = at0 from ((hF641.1 10 rfl).trans ((hF624.1 10 rfl).trans (e_at0)))) (fk := fk2_638) (e_fk := show G636 16 = fk2_638 from (e642)) (tk0 := tk0) (e_tk0 := show G636 11 = tk0 from ((hF641.1 11 rfl).trans ((hF624.1 11 rfl).trans (e_tk0))))  (h_g := ⟨(by decide), (by decide)⟩)  (p_0 := by omega)) (fun o V' hq => ?_)
    obtain ⟨G654, A655, at2_656, tk2_657, fk2_658, rfl, rfl, hW659, hF660, e661, e662, e663, p664, p665, q666⟩ := hq
    have hF667 := Fr_tr hF646 hF660 (Fr_sub (by decide)) (Fr_sub (by decide))
    have hP668 := Pf_f hP647 hF660 (by decide)
    have sf669 : ND A655 (nd) (25) (nu) (0) (0) (0) (0) (0) := ND_ag (by omega) (Ag_fr hF660 (by decide)) sf648
    have ec670 : ecn A655 (G654 31) = ec2_622 := (ecn_f (hF660.2 15 rfl) (hF660.1 31 rfl)).trans ec649
    have bat2_656 : (0 : Int) ≤ at2_656 ∧ at2_656 ≤ 3002 := e661 ▸ hW659.1 10
    have ztk2_657 := tz_b tk2_657
    have btk2_657 : (0 : Int) ≤ tk2_657 ∧ tk2_657 ≤ 5 := e662 ▸ hW659.1 11
    have bfk2_658 : (0 : Int) ≤ fk2_658 ∧ fk2_658 ≤ 6 := e663 ▸ hW659.1 16
    refine .inl ⟨rfl, ?_⟩
    rcases q666 with ⟨a671, a672, a673, a674⟩ | ⟨a675, a676, a677, a678⟩
    · have _q : True := trivial
      refine jx_ld (pc' := 38) (l' := L635) (st' := [.int (i32 (mp))]) rfl (jl_iloadn gL635_3) ?_
      refine jx_if_ne (pc' := 41) (tg := 57) rfl rfl rfl (Int.le_trans (by decide : (-2147483648 : Int) ≤ 0) b_mp.1) (Int.le_trans b_mp.2 (by decide : (6 : Int) ≤ 2147483647)) (fun h679 => ?_) (fun h679 => ?_)
      · have _q := h679
        refine jx_ld (pc' := 58) (l' := L635) (st' := [.ref 66]) rfl (jl_aloadn gL635_0) ?_
        refine jx_vr (pc' := 61) (as := []) (st := []) rfl rfl rfl rfl ⟨rfl, rfl, Nat.le_of_ble_eq_true rfl⟩ rfl rfl (c_bad (dd := d) (hd := by omega) (hW := hW659)  (fk := fk2_658) (e_fk := show G654 16 = fk2_658 from (e663))    ) (fun o V' hq => ?_)
        obtain ⟨r680, rfl, rfl, b681, q682⟩ := hq
        refine .inr ⟨_, rfl, ?_⟩
        rcases q682 with ⟨rfl, a683⟩ | ⟨rfl, a684⟩
        · have _q : True := trivial
          refine jx_if_ne (pc' := 64) (tg := 82) rfl rfl rfl (by decide) (by decide) (fun h685 => ?_) (fun h685 => ?_)
          · have _q := h685
            refine jx_ar (pc' := 83) (st' := [.int (i32 (0))]) rfl rfl rfl rfl ?_
            refine jx_ld (pc' := 85) (l' := jSto1 L635 4 (.int (i32 (0)))) (st' := []) rfl rfl ?_
            obtain ⟨L686, eL686⟩ : ∃ q, q = jSto1 L635 4 (.int (i32 (0))) := ⟨_, rfl⟩
            rw [← eL686]
            have gL686_0 : jGet L686 0 = some (.ref 66) := eL686 ▸ jg_ne (by decide) gL635_0 rfl
            have gL686_1 : jGet L686 1 = some (.int (i32 (s))) := eL686 ▸ jg_ne (by decide) gL635_1 rfl
            have gL686_2 : jGet L686 2 = some (.int (i32 (nd))) := eL686 ▸ jg_ne (by decide) gL635_2 rfl
            have gL686_3 : jGet L686 3 = some (.int (i32 (mp))) := eL686 ▸ jg_ne (by decide) gL635_3 rfl
            have gL686_4 : jGet L686 4 = some (.int (i32 (0))) := eL686 ▸ jg_eq
            refine jx_ar (pc' := 86) (st' := [.int (i32 (0))]) rfl rfl rfl rfl ?_
            refine jx_ld (pc' := 88) (l' := jSto1 L686 5 (.int (i32 (0)))) (st' := []) rfl rfl ?_
            obtain ⟨L687, eL687⟩ : ∃ q, q = jSto1 L686 5 (.int (i32 (0))) := ⟨_, rfl⟩
            rw [← eL687]
            have gL687_0 : jGet L687 0 = some (.ref 66) := eL687 ▸ jg_ne (by decide) gL686_0 rfl
            have gL687_1 : jGet L687 1 = some (.int (i32 (s))) := eL687 ▸ jg_ne (by decide) gL686_1 rfl
            have gL687_2 : jGet L687 2 = some (.int (i32 (nd))) := eL687 ▸ jg_ne (by decide) gL686_2 rfl
            have gL687_3 : jGet L687 3 = some (.int (i32 (mp))) := eL687 ▸ jg_ne (by decide) gL686_3 rfl
            have gL687_4 : jGet L687 4 = some (.int (i32 (0))) := eL687 ▸ jg_ne (by decide) gL686_4 rfl
            have gL687_5 : jGet L687 5 = some (.int (i32 (0))) := eL687 ▸ jg_eq
            have z688 := tz_f (tk2_657)
            exact c_readCall_w_at_88p (X := X) (d := d) (Vs := Vs) (sb := sb) (pb := pb) (c0 := c0) (c1 := c1) (G := G) (A := A) (T := T) (s := s) (ln := ln) (le := le) (at0 := at0) (fk := fk) (op0 := op0) (nd := nd) (tk0 := tk0) (li := li) (kd := kd) (nu := nu) (mp := mp) (pp := pp) (ec := ec) (hd := hd) (hW := hW) (e_ln := e_ln) (e_le := e_le) (e_at0 := e_at0) (e_fk := e_fk) (e_op0 := e_op0) (e_nd := e_nd) (e_tk0 := e_tk0) (e_li := e_li) (e_kd := e_kd) (e_nu := e_nu) (e_mp := e_mp) (e_pp := e_pp) (e_ec := e_ec) (i_SV := i_SV) (i_PQ := i_PQ) (h_s := h_s) (p_0 := p_0) (p_1 := p_1) (p_2 := p_2) (p_3 := p_3) (p_4 := p_4) (p_5 := p_5) (p_6 := p_6) (p_7 := p_7) (p_8 := p_8) L687 G654 A655 (nd) (mp) (0) (0) (at2_656) (tk2_657) (fk2_658) (nd2_621) (op2_639) (ec2_622) gL687_0 gL687_1 gL687_2 gL687_3 gL687_4 gL687_5 hW659 hF667 hP668 ((e661)) ((e662)) ((e663)) (((hF660.1 31 rfl).trans ((hF641.1 31 rfl).trans (e626)))) (((hF660.1 15 rfl).trans (e643))) (ec670) (((hF660.1 9 rfl).trans ((hF641.1 9 rfl).trans ((hF624.1 9 rfl).trans (e_ln))))) (by omega) (by omega) (by omega) (by omega) (by omega) (by omega) (by omega) (by omega) (by omega) (by omega) (by omega)
          · have _q := h685
            exact absurd h685 (by omega)
        · have _q : True := trivial
          exfalso
          omega
      · have _q := h679
        refine jx_ld (pc' := 42) (l' := L635) (st' := [.ref 66]) rfl (jl_aloadn gL635_0) ?_
        refine jx_ld (pc' := 43) (l' := L635) (st' := [.ref 66, .ref 66]) rfl (jl_aloadn gL635_0) ?_
        refine jx_ar (pc' := 45) (st' := [.int (i32 (41)), .ref 66, .ref 66]) rfl rfl rfl rfl ?_
        have b689 : (-2147483648 : Int) ≤ G654 13 ∧ G654 13 ≤ 2147483647 := hW659.1 13
        refine jx_vr (pc' := 48) (as := [.int (i32 (41))]) (st := [.ref 66]) rfl rfl rfl rfl ⟨rfl, rfl, Nat.le_of_ble_eq_true rfl⟩ rfl rfl (c_is (dd := d) (hd := by omega) (hW := hW659) (k := 41) (tk := tk2_657) (e_tk := show G654 11 = tk2_657 from (e662)) (tn := G654 13) (e_tn := show G654 13 = G654 13 from rfl)  (h_k := ⟨(by decide), (by decide)⟩)  ) (fun o V' hq => ?_)
        obtain ⟨r690, rfl, rfl, b691, q692⟩ := hq
        refine .inr ⟨_, rfl, ?_⟩
        rcases q692 with ⟨rfl, a693, a694, a695⟩ | rfl
        · have _q : True := trivial
          refine jx_vr (pc' := 51) (as := [.int (i32 (1))]) (st := []) rfl rfl rfl rfl ⟨rfl, rfl, Nat.le_of_ble_eq_true rfl⟩ rfl rfl (c_need (dd := d) (hd := by omega) (hW := hW659) (g := 1) (ln := ln) (e_ln := show G654 9 = ln from ((hF660.1 9 rfl).trans ((hF641.1 9 rfl).trans ((hF624.1 9 rfl).trans (e_ln))))) (le := le) (e_le := show A655 4 (ln).toNat = le from (congrFun ((hF660.2 4 rfl).trans ((hF641.2 4 rfl).trans (hF624.2 4 rfl))) _).trans (e_le)) (at0 := at2_656) (e_at0 := show G654 10 = at2_656 from (e661)) (fk := fk2_658) (e_fk := show G654 16 = fk2_658 from (e663)) (tk0 := tk2_657) (e_tk0 := show G654 11 = tk2_657 from (e662))  (h_g := ⟨(by decide), (by decide)⟩)  (p_0 := by omega)) (fun o V' hq => ?_)
          obtain ⟨G696, A697, at2_698, tk2_699, fk2_700, rfl, rfl, hW701, hF702, e703, e704, e705, p706, p707, q708⟩ := hq
          have hF709 := Fr_tr hF667 hF702 (Fr_sub (by decide)) (Fr_sub (by decide))
          have hP710 := Pf_f hP668 hF702 (by decide)
          have sf711 : ND A697 (nd) (25) (nu) (0) (0) (0) (0) (0) := ND_ag (by omega) (Ag_fr hF702 (by decide)) sf669
          have ec712 : ecn A697 (G696 31) = ec2_622 := (ecn_f (hF702.2 15 rfl) (hF702.1 31 rfl)).trans ec670
          have bat2_698 : (0 : Int) ≤ at2_698 ∧ at2_698 ≤ 3002 := e703 ▸ hW701.1 10
          have ztk2_699 := tz_b tk2_699
          have btk2_699 : (0 : Int) ≤ tk2_699 ∧ tk2_699 ≤ 5 := e704 ▸ hW701.1 11
          have bfk2_700 : (0 : Int) ≤ fk2_700 ∧ fk2_700 ≤ 6 := e705 ▸ hW701.1 16
          refine .inl ⟨rfl, ?_⟩
          rcases q708 with ⟨a713, a714, a715, a716⟩ | ⟨a717, a718, a719, a720⟩
          · have _q : True := trivial
            refine jx_ld (pc' := 52) (l' := L635) (st' := [.ref 66]) rfl (jl_aloadn gL635_0) ?_
            refine jx_vr (pc' := 55) (as := []) (st := []) rfl rfl rfl rfl ⟨rfl, rfl, Nat.le_of_ble_eq_true rfl⟩ rfl rfl (c_endLine (dd := d) (hd := by omega) (hW := hW701)  (ln := ln) (e_ln := show G696 9 = ln from ((hF702.1 9 rfl).trans ((hF660.1 9 rfl).trans ((hF641.1 9 rfl).trans ((hF624.1 9 rfl).trans (e_ln)))))) (li := li) (e_li := show G696 3 = li from ((hF702.1 3 rfl).trans ((hF660.1 3 rfl).trans ((hF641.1 3 rfl).trans ((hF624.1 3 rfl).trans (e_li)))))) (fk := fk2_700) (e_fk := show G696 16 = fk2_700 from (e705)) (tk0 := tk2_699) (e_tk0 := show G696 11 = tk2_699 from (e704))    (p_0 := by omega)) (fun o V' hq => ?_)
            obtain ⟨G721, A722, ln2_723, fk2_724, rfl, rfl, hW725, hF726, e727, e728, q729⟩ := hq
            have hF730 := Fr_tr hF709 hF726 (Fr_sub (by decide)) (Fr_sub (by decide))
            have hP731 := Pf_f hP710 hF726 (by decide)
            have sf732 : ND A722 (nd) (25) (nu) (0) (0) (0) (0) (0) := ND_ag (by omega) (Ag_fr hF726 (by decide)) sf711
            have ec733 : ecn A722 (G721 31) = ec2_622 := (ecn_f (hF726.2 15 rfl) (hF726.1 31 rfl)).trans ec712
            have bln2_723 : (0 : Int) ≤ ln2_723 ∧ ln2_723 ≤ 3000 := e727 ▸ hW725.1 9
            have bfk2_724 : (0 : Int) ≤ fk2_724 ∧ fk2_724 ≤ 6 := e728 ▸ hW725.1 16
            refine .inl ⟨rfl, ?_⟩
            rcases q729 with ⟨a734, a735, a736, a737, a738⟩ | ⟨a739, a740⟩
            · have _q : True := trivial
              exfalso
              omega
            · have _q : True := trivial
              refine jx_ld (pc' := 56) (l' := L635) (st' := [.int (i32 (nd))]) rfl (jl_iloadn gL635_2) ?_
              refine jx_rt (v := some (.int (i32 (nd)))) rfl rfl rfl rfl rfl rfl ?_
              exact ⟨_, _, _, at2_698, fk2_724, nd2_621, ln2_723, ec2_622, rfl, rfl, hW725, hF730, hP731, by omega, ((hF726.1 10 rfl).trans (e703)), (e728), ((hF726.1 31 rfl).trans ((hF702.1 31 rfl).trans ((hF660.1 31 rfl).trans ((hF641.1 31 rfl).trans (e626))))), (e727), ec733, by omega, by omega, by omega, by omega, by omega, by first | exact Or.inl (⟨by omega, by omega, by omega⟩)⟩
          · have _q : True := trivial
            exfalso
            omega
        · have _q : True := trivial
          refine jx_vr (pc' := 51) (as := [.int (i32 (0))]) (st := []) rfl rfl rfl rfl ⟨rfl, rfl, Nat.le_of_ble_eq_true rfl⟩ rfl rfl (c_need (dd := d) (hd := by omega) (hW := hW659) (g := 0) (ln := ln) (e_ln := show G654 9 = ln from ((hF660.1 9 rfl).trans ((hF641.1 9 rfl).trans ((hF624.1 9 rfl).trans (e_ln))))) (le := le) (e_le := show A655 4 (ln).toNat = le from (congrFun ((hF660.2 4 rfl).trans ((hF641.2 4 rfl).trans (hF624.2 4 rfl))) _).trans (e_le)) (at0 := at2_656) (e_at0 := show G654 10 = at2_656 from (e661)) (fk := fk2_658) (e_fk := show G654 16 = fk2_658 from (e663)) (tk0 := tk2_657) (e_tk0 := show G654 11 = tk2_657 from (e662))  (h_g := ⟨(by decide), (by decide)⟩)  (p_0 := by omega)) (fun o V' hq => ?_)
          obtain ⟨G741, A742, at2_743, tk2_744, fk2_745, rfl, rfl, hW746, hF747, e748, e749, e750, p751, p752, q753⟩ := hq
          have hF754 := Fr_tr hF667 hF747 (Fr_sub (by decide)) (Fr_sub (by decide))
          have hP755 := Pf_f hP668 hF747 (by decide)
          have sf756 : ND A742 (nd) (25) (nu) (0) (0) (0) (0) (0) := ND_ag (by omega) (Ag_fr hF747 (by decide)) sf669
          have ec757 : ecn A742 (G741 31) = ec2_622 := (ecn_f (hF747.2 15 rfl) (hF747.1 31 rfl)).trans ec670
          have bat2_743 : (0 : Int) ≤ at2_743 ∧ at2_743 ≤ 3002 := e748 ▸ hW746.1 10
          have ztk2_744 := tz_b tk2_744
          have btk2_744 : (0 : Int) ≤ tk2_744 ∧ tk2_744 ≤ 5 := e749 ▸ hW746.1 11
          have bfk2_745 : (0 : Int) ≤ fk2_745 ∧ fk2_745 ≤ 6 := e750 ▸ hW746.1 16
          refine .inl ⟨rfl, ?_⟩
          rcases q753 with ⟨a758, a759, a760, a761⟩ | ⟨a762, a763, a764, a765⟩
          · have _q : True := trivial
            refine jx_ld (pc' := 52) (l' := L635) (st' := [.ref 66]) rfl (jl_aloadn gL635_0) ?_
            refine jx_vr (pc' := 55) (as := []) (st := []) rfl rfl rfl rfl ⟨rfl, rfl, Nat.le_of_ble_eq_true rfl⟩ rfl rfl (c_endLine (dd := d) (hd := by omega) (hW := hW746)  (ln := ln) (e_ln := show G741 9 = ln from ((hF747.1 9 rfl).trans ((hF660.1 9 rfl).trans ((hF641.1 9 rfl).trans ((hF624.1 9 rfl).trans (e_ln)))))) (li := li) (e_li := show G741 3 = li from ((hF747.1 3 rfl).trans ((hF660.1 3 rfl).trans ((hF641.1 3 rfl).trans ((hF624.1 3 rfl).trans (e_li)))))) (fk := fk2_745) (e_fk := show G741 16 = fk2_745 from (e750)) (tk0 := tk2_744) (e_tk0 := show G741 11 = tk2_744 from (e749))    (p_0 := by omega)) (fun o V' hq => ?_)
            obtain ⟨G766, A767, ln2_768, fk2_769, rfl, rfl, hW770, hF771, e772, e773, q774⟩ := hq
            have hF775 := Fr_tr hF754 hF771 (Fr_sub (by decide)) (Fr_sub (by decide))
            have hP776 := Pf_f hP755 hF771 (by decide)
            have sf777 : ND A767 (nd) (25) (nu) (0) (0) (0) (0) (0) := ND_ag (by omega) (Ag_fr hF771 (by decide)) sf756
            have ec778 : ecn A767 (G766 31) = ec2_622 := (ecn_f (hF771.2 15 rfl) (hF771.1 31 rfl)).trans ec757
            have bln2_768 : (0 : Int) ≤ ln2_768 ∧ ln2_768 ≤ 3000 := e772 ▸ hW770.1 9
            have bfk2_769 : (0 : Int) ≤ fk2_769 ∧ fk2_769 ≤ 6 := e773 ▸ hW770.1 16
            refine .inl ⟨rfl, ?_⟩
            rcases q774 with ⟨a779, a780, a781, a782, a783⟩ | ⟨a784, a785⟩
            · have _q : True := trivial
              exfalso
              omega
            · have _q : True := trivial
              refine jx_ld (pc' := 56) (l' := L635) (st' := [.int (i32 (nd))]) rfl (jl_iloadn gL635_2) ?_
              refine jx_rt (v := some (.int (i32 (nd)))) rfl rfl rfl rfl rfl rfl ?_
              exact ⟨_, _, _, at2_743, fk2_769, nd2_621, ln2_768, ec2_622, rfl, rfl, hW770, hF775, hP776, by omega, ((hF771.1 10 rfl).trans (e748)), (e773), ((hF771.1 31 rfl).trans ((hF747.1 31 rfl).trans ((hF660.1 31 rfl).trans ((hF641.1 31 rfl).trans (e626))))), (e772), ec778, by omega, by omega, by omega, by omega, by omega, by first | exact Or.inl (⟨by omega, by omega, by omega⟩)⟩
          · have _q : True := trivial
            exfalso
            omega
    · have _q : True := trivial
      exfalso
      omega
  · have _q : True := trivial
    refine jx_ld (pc' := 33) (l' := L635) (st' := [.ref 66]) rfl (jl_aloadn gL635_0) ?_
    refine jx_ar (pc' := 34) (st' := [.int (i32 (1)), .ref 66]) rfl rfl rfl rfl ?_
    refine jx_vr (pc' := 37) (as := [.int (i32 (1))]) (st := []) rfl rfl rfl rfl ⟨rfl, rfl, Nat.le_of_ble_eq_true rfl⟩ rfl rfl (c_need (dd := d) (hd := by omega) (hW := hW640) (g := 1) (ln := ln) (e_ln := show G636 9 = ln from ((hF641.1 9 rfl).trans ((hF624.1 9 rfl).trans (e_ln)))) (le := le) (e_le := show A637 4 (ln).toNat = le from (congrFun ((hF641.2 4 rfl).trans (hF624.2 4 rfl)) _).trans (e_le)) (at0 := at0) (e_at0 := show G636 10 = at0 from ((hF641.1 10 rfl).trans ((hF624.1 10 rfl).trans (e_at0)))) (fk := fk2_638) (e_fk := show G636 16 = fk2_638 from (e642)) (tk0 := tk0) (e_tk0 := show G636 11 = tk0 from ((hF641.1 11 rfl).trans ((hF624.1 11 rfl).trans (e_tk0))))  (h_g := ⟨(by decide), (by decide)⟩)  (p_0 := by omega)) (fun o V' hq => ?_)
    obtain ⟨G786, A787, at2_788, tk2_789, fk2_790, rfl, rfl, hW791, hF792, e793, e794, e795, p796, p797, q798⟩ := hq
    have hF799 := Fr_tr hF646 hF792 (Fr_sub (by decide)) (Fr_sub (by decide))
    have hP800 := Pf_f hP647 hF792 (by decide)
    have sf801 : ND A787 (nd) (25) (nu) (0) (0) (0) (0) (0) := ND_ag (by omega) (Ag_fr hF792 (by decide)) sf648
    have ec802 : ecn A787 (G786 31) = ec2_622 := (ecn_f (hF792.2 15 rfl) (hF792.1 31 rfl)).trans ec649
    have bat2_788 : (0 : Int) ≤ at2_788 ∧ at2_788 ≤ 3002 := e793 ▸ hW791.1 10
    have ztk2_789 := tz_b tk2_789
    have btk2_789 : (0 : Int) ≤ tk2_789 ∧ tk2_789 ≤ 5 := e794 ▸ hW791.1 11
    have bfk2_790 : (0 : Int) ≤ fk2_790 ∧ fk2_790 ≤ 6 := e795 ▸ hW791.1 16
    refine .inl ⟨rfl, ?_⟩
    rcases q798 with ⟨a803, a804, a805, a806⟩ | ⟨a807, a808, a809, a810⟩
    · have _q : True := trivial
      refine jx_ld (pc' := 38) (l' := L635) (st' := [.int (i32 (mp))]) rfl (jl_iloadn gL635_3) ?_
      refine jx_if_ne (pc' := 41) (tg := 57) rfl rfl rfl (Int.le_trans (by decide : (-2147483648 : Int) ≤ 0) b_mp.1) (Int.le_trans b_mp.2 (by decide : (6 : Int) ≤ 2147483647)) (fun h811 => ?_) (fun h811 => ?_)
      · have _q := h811
        refine jx_ld (pc' := 58) (l' := L635) (st' := [.ref 66]) rfl (jl_aloadn gL635_0) ?_
        refine jx_vr (pc' := 61) (as := []) (st := []) rfl rfl rfl rfl ⟨rfl, rfl, Nat.le_of_ble_eq_true rfl⟩ rfl rfl (c_bad (dd := d) (hd := by omega) (hW := hW791)  (fk := fk2_790) (e_fk := show G786 16 = fk2_790 from (e795))    ) (fun o V' hq => ?_)
        obtain ⟨r812, rfl, rfl, b813, q814⟩ := hq
        refine .inr ⟨_, rfl, ?_⟩
        rcases q814 with ⟨rfl, a815⟩ | ⟨rfl, a816⟩
        · have _q : True := trivial
          refine jx_if_ne (pc' := 64) (tg := 82) rfl rfl rfl (by decide) (by decide) (fun h817 => ?_) (fun h817 => ?_)
          · have _q := h817
            refine jx_ar (pc' := 83) (st' := [.int (i32 (0))]) rfl rfl rfl rfl ?_
            refine jx_ld (pc' := 85) (l' := jSto1 L635 4 (.int (i32 (0)))) (st' := []) rfl rfl ?_
            obtain ⟨L818, eL818⟩ : ∃ q, q = jSto1 L635 4 (.int (i32 (0))) := ⟨_, rfl⟩
            rw [← eL818]
            have gL818_0 : jGet L818 0 = some (.ref 66) := eL818 ▸ jg_ne (by decide) gL635_0 rfl
            have gL818_1 : jGet L818 1 = some (.int (i32 (s))) := eL818 ▸ jg_ne (by decide) gL635_1 rfl
            have gL818_2 : jGet L818 2 = some (.int (i32 (nd))) := eL818 ▸ jg_ne (by decide) gL635_2 rfl
            have gL818_3 : jGet L818 3 = some (.int (i32 (mp))) := eL818 ▸ jg_ne (by decide) gL635_3 rfl
            have gL818_4 : jGet L818 4 = some (.int (i32 (0))) := eL818 ▸ jg_eq
            refine jx_ar (pc' := 86) (st' := [.int (i32 (0))]) rfl rfl rfl rfl ?_
            refine jx_ld (pc' := 88) (l' := jSto1 L818 5 (.int (i32 (0)))) (st' := []) rfl rfl ?_
            obtain ⟨L819, eL819⟩ : ∃ q, q = jSto1 L818 5 (.int (i32 (0))) := ⟨_, rfl⟩
            rw [← eL819]
            have gL819_0 : jGet L819 0 = some (.ref 66) := eL819 ▸ jg_ne (by decide) gL818_0 rfl
            have gL819_1 : jGet L819 1 = some (.int (i32 (s))) := eL819 ▸ jg_ne (by decide) gL818_1 rfl
            have gL819_2 : jGet L819 2 = some (.int (i32 (nd))) := eL819 ▸ jg_ne (by decide) gL818_2 rfl
            have gL819_3 : jGet L819 3 = some (.int (i32 (mp))) := eL819 ▸ jg_ne (by decide) gL818_3 rfl
            have gL819_4 : jGet L819 4 = some (.int (i32 (0))) := eL819 ▸ jg_ne (by decide) gL818_4 rfl
            have gL819_5 : jGet L819 5 = some (.int (i32 (0))) := eL819 ▸ jg_eq
            have z820 := tz_f (tk2_789)
            exact c_readCall_w_at_88p (X := X) (d := d) (Vs := Vs) (sb := sb) (pb := pb) (c0 := c0) (c1 := c1) (G := G) (A := A) (T := T) (s := s) (ln := ln) (le := le) (at0 := at0) (fk := fk) (op0 := op0) (nd := nd) (tk0 := tk0) (li := li) (kd := kd) (nu := nu) (mp := mp) (pp := pp) (ec := ec) (hd := hd) (hW := hW) (e_ln := e_ln) (e_le := e_le) (e_at0 := e_at0) (e_fk := e_fk) (e_op0 := e_op0) (e_nd := e_nd) (e_tk0 := e_tk0) (e_li := e_li) (e_kd := e_kd) (e_nu := e_nu) (e_mp := e_mp) (e_pp := e_pp) (e_ec := e_ec) (i_SV := i_SV) (i_PQ := i_PQ) (h_s := h_s) (p_0 := p_0) (p_1 := p_1) (p_2 := p_2) (p_3 := p_3) (p_4 := p_4) (p_5 := p_5) (p_6 := p_6) (p_7 := p_7) (p_8 := p_8) L819 G786 A787 (nd) (mp) (0) (0) (at2_788) (tk2_789) (fk2_790) (nd2_621) (op2_639) (ec2_622) gL819_0 gL819_1 gL819_2 gL819_3 gL819_4 gL819_5 hW791 hF799 hP800 ((e793)) ((e794)) ((e795)) (((hF792.1 31 rfl).trans ((hF641.1 31 rfl).trans (e626)))) (((hF792.1 15 rfl).trans (e643))) (ec802) (((hF792.1 9 rfl).trans ((hF641.1 9 rfl).trans ((hF624.1 9 rfl).trans (e_ln))))) (by omega) (by omega) (by omega) (by omega) (by omega) (by omega) (by omega) (by omega) (by omega) (by omega) (by omega)
          · have _q := h817
            exact absurd h817 (by omega)
        · have _q : True := trivial
          exfalso
          omega
      · have _q := h811
        refine jx_ld (pc' := 42) (l' := L635) (st' := [.ref 66]) rfl (jl_aloadn gL635_0) ?_
        refine jx_ld (pc' := 43) (l' := L635) (st' := [.ref 66, .ref 66]) rfl (jl_aloadn gL635_0) ?_
        refine jx_ar (pc' := 45) (st' := [.int (i32 (41)), .ref 66, .ref 66]) rfl rfl rfl rfl ?_
        have b821 : (-2147483648 : Int) ≤ G786 13 ∧ G786 13 ≤ 2147483647 := hW791.1 13
        refine jx_vr (pc' := 48) (as := [.int (i32 (41))]) (st := [.ref 66]) rfl rfl rfl rfl ⟨rfl, rfl, Nat.le_of_ble_eq_true rfl⟩ rfl rfl (c_is (dd := d) (hd := by omega) (hW := hW791) (k := 41) (tk := tk2_789) (e_tk := show G786 11 = tk2_789 from (e794)) (tn := G786 13) (e_tn := show G786 13 = G786 13 from rfl)  (h_k := ⟨(by decide), (by decide)⟩)  ) (fun o V' hq => ?_)
        obtain ⟨r822, rfl, rfl, b823, q824⟩ := hq
        refine .inr ⟨_, rfl, ?_⟩
        rcases q824 with ⟨rfl, a825, a826, a827⟩ | rfl
        · have _q : True := trivial
          refine jx_vr (pc' := 51) (as := [.int (i32 (1))]) (st := []) rfl rfl rfl rfl ⟨rfl, rfl, Nat.le_of_ble_eq_true rfl⟩ rfl rfl (c_need (dd := d) (hd := by omega) (hW := hW791) (g := 1) (ln := ln) (e_ln := show G786 9 = ln from ((hF792.1 9 rfl).trans ((hF641.1 9 rfl).trans ((hF624.1 9 rfl).trans (e_ln))))) (le := le) (e_le := show A787 4 (ln).toNat = le from (congrFun ((hF792.2 4 rfl).trans ((hF641.2 4 rfl).trans (hF624.2 4 rfl))) _).trans (e_le)) (at0 := at2_788) (e_at0 := show G786 10 = at2_788 from (e793)) (fk := fk2_790) (e_fk := show G786 16 = fk2_790 from (e795)) (tk0 := tk2_789) (e_tk0 := show G786 11 = tk2_789 from (e794))  (h_g := ⟨(by decide), (by decide)⟩)  (p_0 := by omega)) (fun o V' hq => ?_)
          obtain ⟨G828, A829, at2_830, tk2_831, fk2_832, rfl, rfl, hW833, hF834, e835, e836, e837, p838, p839, q840⟩ := hq
          have hF841 := Fr_tr hF799 hF834 (Fr_sub (by decide)) (Fr_sub (by decide))
          have hP842 := Pf_f hP800 hF834 (by decide)
          have sf843 : ND A829 (nd) (25) (nu) (0) (0) (0) (0) (0) := ND_ag (by omega) (Ag_fr hF834 (by decide)) sf801
          have ec844 : ecn A829 (G828 31) = ec2_622 := (ecn_f (hF834.2 15 rfl) (hF834.1 31 rfl)).trans ec802
          have bat2_830 : (0 : Int) ≤ at2_830 ∧ at2_830 ≤ 3002 := e835 ▸ hW833.1 10
          have ztk2_831 := tz_b tk2_831
          have btk2_831 : (0 : Int) ≤ tk2_831 ∧ tk2_831 ≤ 5 := e836 ▸ hW833.1 11
          have bfk2_832 : (0 : Int) ≤ fk2_832 ∧ fk2_832 ≤ 6 := e837 ▸ hW833.1 16
          refine .inl ⟨rfl, ?_⟩
          rcases q840 with ⟨a845, a846, a847, a848⟩ | ⟨a849, a850, a851, a852⟩
          · have _q : True := trivial
            refine jx_ld (pc' := 52) (l' := L635) (st' := [.ref 66]) rfl (jl_aloadn gL635_0) ?_
            refine jx_vr (pc' := 55) (as := []) (st := []) rfl rfl rfl rfl ⟨rfl, rfl, Nat.le_of_ble_eq_true rfl⟩ rfl rfl (c_endLine (dd := d) (hd := by omega) (hW := hW833)  (ln := ln) (e_ln := show G828 9 = ln from ((hF834.1 9 rfl).trans ((hF792.1 9 rfl).trans ((hF641.1 9 rfl).trans ((hF624.1 9 rfl).trans (e_ln)))))) (li := li) (e_li := show G828 3 = li from ((hF834.1 3 rfl).trans ((hF792.1 3 rfl).trans ((hF641.1 3 rfl).trans ((hF624.1 3 rfl).trans (e_li)))))) (fk := fk2_832) (e_fk := show G828 16 = fk2_832 from (e837)) (tk0 := tk2_831) (e_tk0 := show G828 11 = tk2_831 from (e836))    (p_0 := by omega)) (fun o V' hq => ?_)
            obtain ⟨G853, A854, ln2_855, fk2_856, rfl, rfl, hW857, hF858, e859, e860, q861⟩ := hq
            have hF862 := Fr_tr hF841 hF858 (Fr_sub (by decide)) (Fr_sub (by decide))
            have hP863 := Pf_f hP842 hF858 (by decide)
            have sf864 : ND A854 (nd) (25) (nu) (0) (0) (0) (0) (0) := ND_ag (by omega) (Ag_fr hF858 (by decide)) sf843
            have ec865 : ecn A854 (G853 31) = ec2_622 := (ecn_f (hF858.2 15 rfl) (hF858.1 31 rfl)).trans ec844
            have bln2_855 : (0 : Int) ≤ ln2_855 ∧ ln2_855 ≤ 3000 := e859 ▸ hW857.1 9
            have bfk2_856 : (0 : Int) ≤ fk2_856 ∧ fk2_856 ≤ 6 := e860 ▸ hW857.1 16
            refine .inl ⟨rfl, ?_⟩
            rcases q861 with ⟨a866, a867, a868, a869, a870⟩ | ⟨a871, a872⟩
            · have _q : True := trivial
              exfalso
              omega
            · have _q : True := trivial
              refine jx_ld (pc' := 56) (l' := L635) (st' := [.int (i32 (nd))]) rfl (jl_iloadn gL635_2) ?_
              refine jx_rt (v := some (.int (i32 (nd)))) rfl rfl rfl rfl rfl rfl ?_
              exact ⟨_, _, _, at2_830, fk2_856, nd2_621, ln2_855, ec2_622, rfl, rfl, hW857, hF862, hP863, by omega, ((hF858.1 10 rfl).trans (e835)), (e860), ((hF858.1 31 rfl).trans ((hF834.1 31 rfl).trans ((hF792.1 31 rfl).trans ((hF641.1 31 rfl).trans (e626))))), (e859), ec865, by omega, by omega, by omega, by omega, by omega, by first | exact Or.inl (⟨by omega, by omega, by omega⟩)⟩
          · have _q : True := trivial
            exfalso
            omega
        · have _q : True := trivial
          refine jx_vr (pc' := 51) (as := [.int (i32 (0))]) (st := []) rfl rfl rfl rfl ⟨rfl, rfl, Nat.le_of_ble_eq_true rfl⟩ rfl rfl (c_need (dd := d) (hd := by omega) (hW := hW791) (g := 0) (ln := ln) (e_ln := show G786 9 = ln from ((hF792.1 9 rfl).trans ((hF641.1 9 rfl).trans ((hF624.1 9 rfl).trans (e_ln))))) (le := le) (e_le := show A787 4 (ln).toNat = le from (congrFun ((hF792.2 4 rfl).trans ((hF641.2 4 rfl).trans (hF624.2 4 rfl))) _).trans (e_le)) (at0 := at2_788) (e_at0 := show G786 10 = at2_788 from (e793)) (fk := fk2_790) (e_fk := show G786 16 = fk2_790 from (e795)) (tk0 := tk2_789) (e_tk0 := show G786 11 = tk2_789 from (e794))  (h_g := ⟨(by decide), (by decide)⟩)  (p_0 := by omega)) (fun o V' hq => ?_)
          obtain ⟨G873, A874, at2_875, tk2_876, fk2_877, rfl, rfl, hW878, hF879, e880, e881, e882, p883, p884, q885⟩ := hq
          have hF886 := Fr_tr hF799 hF879 (Fr_sub (by decide)) (Fr_sub (by decide))
          have hP887 := Pf_f hP800 hF879 (by decide)
          have sf888 : ND A874 (nd) (25) (nu) (0) (0) (0) (0) (0) := ND_ag (by omega) (Ag_fr hF879 (by decide)) sf801
          have ec889 : ecn A874 (G873 31) = ec2_622 := (ecn_f (hF879.2 15 rfl) (hF879.1 31 rfl)).trans ec802
          have bat2_875 : (0 : Int) ≤ at2_875 ∧ at2_875 ≤ 3002 := e880 ▸ hW878.1 10
          have ztk2_876 := tz_b tk2_876
          have btk2_876 : (0 : Int) ≤ tk2_876 ∧ tk2_876 ≤ 5 := e881 ▸ hW878.1 11
          have bfk2_877 : (0 : Int) ≤ fk2_877 ∧ fk2_877 ≤ 6 := e882 ▸ hW878.1 16
          refine .inl ⟨rfl, ?_⟩
          rcases q885 with ⟨a890, a891, a892, a893⟩ | ⟨a894, a895, a896, a897⟩
          · have _q : True := trivial
            refine jx_ld (pc' := 52) (l' := L635) (st' := [.ref 66]) rfl (jl_aloadn gL635_0) ?_
            refine jx_vr (pc' := 55) (as := []) (st := []) rfl rfl rfl rfl ⟨rfl, rfl, Nat.le_of_ble_eq_true rfl⟩ rfl rfl (c_endLine (dd := d) (hd := by omega) (hW := hW878)  (ln := ln) (e_ln := show G873 9 = ln from ((hF879.1 9 rfl).trans ((hF792.1 9 rfl).trans ((hF641.1 9 rfl).trans ((hF624.1 9 rfl).trans (e_ln)))))) (li := li) (e_li := show G873 3 = li from ((hF879.1 3 rfl).trans ((hF792.1 3 rfl).trans ((hF641.1 3 rfl).trans ((hF624.1 3 rfl).trans (e_li)))))) (fk := fk2_877) (e_fk := show G873 16 = fk2_877 from (e882)) (tk0 := tk2_876) (e_tk0 := show G873 11 = tk2_876 from (e881))    (p_0 := by omega)) (fun o V' hq => ?_)
            obtain ⟨G898, A899, ln2_900, fk2_901, rfl, rfl, hW902, hF903, e904, e905, q906⟩ := hq
            have hF907 := Fr_tr hF886 hF903 (Fr_sub (by decide)) (Fr_sub (by decide))
            have hP908 := Pf_f hP887 hF903 (by decide)
            have sf909 : ND A899 (nd) (25) (nu) (0) (0) (0) (0) (0) := ND_ag (by omega) (Ag_fr hF903 (by decide)) sf888
            have ec910 : ecn A899 (G898 31) = ec2_622 := (ecn_f (hF903.2 15 rfl) (hF903.1 31 rfl)).trans ec889
            have bln2_900 : (0 : Int) ≤ ln2_900 ∧ ln2_900 ≤ 3000 := e904 ▸ hW902.1 9
            have bfk2_901 : (0 : Int) ≤ fk2_901 ∧ fk2_901 ≤ 6 := e905 ▸ hW902.1 16
            refine .inl ⟨rfl, ?_⟩
            rcases q906 with ⟨a911, a912, a913, a914, a915⟩ | ⟨a916, a917⟩
            · have _q : True := trivial
              exfalso
              omega
            · have _q : True := trivial
              refine jx_ld (pc' := 56) (l' := L635) (st' := [.int (i32 (nd))]) rfl (jl_iloadn gL635_2) ?_
              refine jx_rt (v := some (.int (i32 (nd)))) rfl rfl rfl rfl rfl rfl ?_
              exact ⟨_, _, _, at2_875, fk2_901, nd2_621, ln2_900, ec2_622, rfl, rfl, hW902, hF907, hP908, by omega, ((hF903.1 10 rfl).trans (e880)), (e905), ((hF903.1 31 rfl).trans ((hF879.1 31 rfl).trans ((hF792.1 31 rfl).trans ((hF641.1 31 rfl).trans (e626))))), (e904), ec910, by omega, by omega, by omega, by omega, by omega, by first | exact Or.inl (⟨by omega, by omega, by omega⟩)⟩
          · have _q : True := trivial
            exfalso
            omega
    · have _q : True := trivial
      refine jx_ld (pc' := 38) (l' := L635) (st' := [.int (i32 (mp))]) rfl (jl_iloadn gL635_3) ?_
      refine jx_if_ne (pc' := 41) (tg := 57) rfl rfl rfl (Int.le_trans (by decide : (-2147483648 : Int) ≤ 0) b_mp.1) (Int.le_trans b_mp.2 (by decide : (6 : Int) ≤ 2147483647)) (fun h918 => ?_) (fun h918 => ?_)
      · have _q := h918
        have z919 := tz_f (tk2_789)
        exact c_readCall_w_at_57 (X := X) (d := d) (Vs := Vs) (sb := sb) (pb := pb) (c0 := c0) (c1 := c1) (G := G) (A := A) (T := T) (s := s) (ln := ln) (le := le) (at0 := at0) (fk := fk) (op0 := op0) (nd := nd) (tk0 := tk0) (li := li) (kd := kd) (nu := nu) (mp := mp) (pp := pp) (ec := ec) (hd := hd) (hW := hW) (e_ln := e_ln) (e_le := e_le) (e_at0 := e_at0) (e_fk := e_fk) (e_op0 := e_op0) (e_nd := e_nd) (e_tk0 := e_tk0) (e_li := e_li) (e_kd := e_kd) (e_nu := e_nu) (e_mp := e_mp) (e_pp := e_pp) (e_ec := e_ec) (i_SV := i_SV) (i_PQ := i_PQ) (h_s := h_s) (p_0 := p_0) (p_1 := p_1) (p_2 := p_2) (p_3 := p_3) (p_4 := p_4) (p_5 := p_5) (p_6 := p_6) (p_7 := p_7) (p_8 := p_8) L635 G786 A787 (nd) (mp) (at2_788) (tk2_789) (fk2_790) (nd2_621) (op2_639) (ec2_622) gL635_0 gL635_1 gL635_2 gL635_3 hW791 hF799 hP800 ((e793)) ((e794)) ((e795)) (((hF792.1 31 rfl).trans ((hF641.1 31 rfl).trans (e626)))) (((hF792.1 15 rfl).trans (e643))) (ec802) (((hF792.1 9 rfl).trans ((hF641.1 9 rfl).trans ((hF624.1 9 rfl).trans (e_ln))))) (by omega) (by omega) (by omega) (by omega) (by omega) (by omega) (by omega) (by omega) (by omega) (by omega) (by omega) (by omega) (by omega) (by omega) (sf801) (by omega) (by omega) (by omega)
      · have _q := h918
        refine jx_ld (pc' := 42) (l' := L635) (st' := [.ref 66]) rfl (jl_aloadn gL635_0) ?_
        refine jx_ld (pc' := 43) (l' := L635) (st' := [.ref 66, .ref 66]) rfl (jl_aloadn gL635_0) ?_
        refine jx_ar (pc' := 45) (st' := [.int (i32 (41)), .ref 66, .ref 66]) rfl rfl rfl rfl ?_
        have b920 : (-2147483648 : Int) ≤ G786 13 ∧ G786 13 ≤ 2147483647 := hW791.1 13
        refine jx_vr (pc' := 48) (as := [.int (i32 (41))]) (st := [.ref 66]) rfl rfl rfl rfl ⟨rfl, rfl, Nat.le_of_ble_eq_true rfl⟩ rfl rfl (c_is (dd := d) (hd := by omega) (hW := hW791) (k := 41) (tk := tk2_789) (e_tk := show G786 11 = tk2_789 from (e794)) (tn := G786 13) (e_tn := show G786 13 = G786 13 from rfl)  (h_k := ⟨(by decide), (by decide)⟩)  ) (fun o V' hq => ?_)
        obtain ⟨r921, rfl, rfl, b922, q923⟩ := hq
        refine .inr ⟨_, rfl, ?_⟩
        rcases q923 with ⟨rfl, a924, a925, a926⟩ | rfl
        · have _q : True := trivial
          refine jx_vr (pc' := 51) (as := [.int (i32 (1))]) (st := []) rfl rfl rfl rfl ⟨rfl, rfl, Nat.le_of_ble_eq_true rfl⟩ rfl rfl (c_need (dd := d) (hd := by omega) (hW := hW791) (g := 1) (ln := ln) (e_ln := show G786 9 = ln from ((hF792.1 9 rfl).trans ((hF641.1 9 rfl).trans ((hF624.1 9 rfl).trans (e_ln))))) (le := le) (e_le := show A787 4 (ln).toNat = le from (congrFun ((hF792.2 4 rfl).trans ((hF641.2 4 rfl).trans (hF624.2 4 rfl))) _).trans (e_le)) (at0 := at2_788) (e_at0 := show G786 10 = at2_788 from (e793)) (fk := fk2_790) (e_fk := show G786 16 = fk2_790 from (e795)) (tk0 := tk2_789) (e_tk0 := show G786 11 = tk2_789 from (e794))  (h_g := ⟨(by decide), (by decide)⟩)  (p_0 := by omega)) (fun o V' hq => ?_)
          obtain ⟨G927, A928, at2_929, tk2_930, fk2_931, rfl, rfl, hW932, hF933, e934, e935, e936, p937, p938, q939⟩ := hq
          have hF940 := Fr_tr hF799 hF933 (Fr_sub (by decide)) (Fr_sub (by decide))
          have hP941 := Pf_f hP800 hF933 (by decide)
          have sf942 : ND A928 (nd) (25) (nu) (0) (0) (0) (0) (0) := ND_ag (by omega) (Ag_fr hF933 (by decide)) sf801
          have ec943 : ecn A928 (G927 31) = ec2_622 := (ecn_f (hF933.2 15 rfl) (hF933.1 31 rfl)).trans ec802
          have bat2_929 : (0 : Int) ≤ at2_929 ∧ at2_929 ≤ 3002 := e934 ▸ hW932.1 10
          have ztk2_930 := tz_b tk2_930
          have btk2_930 : (0 : Int) ≤ tk2_930 ∧ tk2_930 ≤ 5 := e935 ▸ hW932.1 11
          have bfk2_931 : (0 : Int) ≤ fk2_931 ∧ fk2_931 ≤ 6 := e936 ▸ hW932.1 16
          refine .inl ⟨rfl, ?_⟩
          rcases q939 with ⟨a944, a945, a946, a947⟩ | ⟨a948, a949, a950, a951⟩
          · have _q : True := trivial
            refine jx_ld (pc' := 52) (l' := L635) (st' := [.ref 66]) rfl (jl_aloadn gL635_0) ?_
            refine jx_vr (pc' := 55) (as := []) (st := []) rfl rfl rfl rfl ⟨rfl, rfl, Nat.le_of_ble_eq_true rfl⟩ rfl rfl (c_endLine (dd := d) (hd := by omega) (hW := hW932)  (ln := ln) (e_ln := show G927 9 = ln from ((hF933.1 9 rfl).trans ((hF792.1 9 rfl).trans ((hF641.1 9 rfl).trans ((hF624.1 9 rfl).trans (e_ln)))))) (li := li) (e_li := show G927 3 = li from ((hF933.1 3 rfl).trans ((hF792.1 3 rfl).trans ((hF641.1 3 rfl).trans ((hF624.1 3 rfl).trans (e_li)))))) (fk := fk2_931) (e_fk := show G927 16 = fk2_931 from (e936)) (tk0 := tk2_930) (e_tk0 := show G927 11 = tk2_930 from (e935))    (p_0 := by omega)) (fun o V' hq => ?_)
            obtain ⟨G952, A953, ln2_954, fk2_955, rfl, rfl, hW956, hF957, e958, e959, q960⟩ := hq
            have hF961 := Fr_tr hF940 hF957 (Fr_sub (by decide)) (Fr_sub (by decide))
            have hP962 := Pf_f hP941 hF957 (by decide)
            have sf963 : ND A953 (nd) (25) (nu) (0) (0) (0) (0) (0) := ND_ag (by omega) (Ag_fr hF957 (by decide)) sf942
            have ec964 : ecn A953 (G952 31) = ec2_622 := (ecn_f (hF957.2 15 rfl) (hF957.1 31 rfl)).trans ec943
            have bln2_954 : (0 : Int) ≤ ln2_954 ∧ ln2_954 ≤ 3000 := e958 ▸ hW956.1 9
            have bfk2_955 : (0 : Int) ≤ fk2_955 ∧ fk2_955 ≤ 6 := e959 ▸ hW956.1 16
            refine .inl ⟨rfl, ?_⟩
            rcases q960 with ⟨a965, a966, a967, a968, a969⟩ | ⟨a970, a971⟩
            · have _q : True := trivial
              exfalso
              omega
            · have _q : True := trivial
              refine jx_ld (pc' := 56) (l' := L635) (st' := [.int (i32 (nd))]) rfl (jl_iloadn gL635_2) ?_
              refine jx_rt (v := some (.int (i32 (nd)))) rfl rfl rfl rfl rfl rfl ?_
              exact ⟨_, _, _, at2_929, fk2_955, nd2_621, ln2_954, ec2_622, rfl, rfl, hW956, hF961, hP962, by omega, ((hF957.1 10 rfl).trans (e934)), (e959), ((hF957.1 31 rfl).trans ((hF933.1 31 rfl).trans ((hF792.1 31 rfl).trans ((hF641.1 31 rfl).trans (e626))))), (e958), ec964, by omega, by omega, by omega, by omega, by omega, by first | exact Or.inl (⟨by omega, by omega, by omega⟩)⟩
          · have _q : True := trivial
            refine jx_ld (pc' := 52) (l' := L635) (st' := [.ref 66]) rfl (jl_aloadn gL635_0) ?_
            refine jx_vr (pc' := 55) (as := []) (st := []) rfl rfl rfl rfl ⟨rfl, rfl, Nat.le_of_ble_eq_true rfl⟩ rfl rfl (c_endLine (dd := d) (hd := by omega) (hW := hW932)  (ln := ln) (e_ln := show G927 9 = ln from ((hF933.1 9 rfl).trans ((hF792.1 9 rfl).trans ((hF641.1 9 rfl).trans ((hF624.1 9 rfl).trans (e_ln)))))) (li := li) (e_li := show G927 3 = li from ((hF933.1 3 rfl).trans ((hF792.1 3 rfl).trans ((hF641.1 3 rfl).trans ((hF624.1 3 rfl).trans (e_li)))))) (fk := fk2_931) (e_fk := show G927 16 = fk2_931 from (e936)) (tk0 := tk2_930) (e_tk0 := show G927 11 = tk2_930 from (e935))    (p_0 := by omega)) (fun o V' hq => ?_)
            obtain ⟨G972, A973, ln2_974, fk2_975, rfl, rfl, hW976, hF977, e978, e979, q980⟩ := hq
            have hF981 := Fr_tr hF940 hF977 (Fr_sub (by decide)) (Fr_sub (by decide))
            have hP982 := Pf_f hP941 hF977 (by decide)
            have sf983 : ND A973 (nd) (25) (nu) (0) (0) (0) (0) (0) := ND_ag (by omega) (Ag_fr hF977 (by decide)) sf942
            have ec984 : ecn A973 (G972 31) = ec2_622 := (ecn_f (hF977.2 15 rfl) (hF977.1 31 rfl)).trans ec943
            have bln2_974 : (0 : Int) ≤ ln2_974 ∧ ln2_974 ≤ 3000 := e978 ▸ hW976.1 9
            have bfk2_975 : (0 : Int) ≤ fk2_975 ∧ fk2_975 ≤ 6 := e979 ▸ hW976.1 16
            refine .inl ⟨rfl, ?_⟩
            rcases q980 with ⟨a985, a986, a987, a988, a989⟩ | ⟨a990, a991⟩
            · have _q : True := trivial
              refine jx_ld (pc' := 56) (l' := L635) (st' := [.int (i32 (nd))]) rfl (jl_iloadn gL635_2) ?_
              refine jx_rt (v := some (.int (i32 (nd)))) rfl rfl rfl rfl rfl rfl ?_
              exact ⟨_, _, _, at2_929, fk2_975, nd2_621, ln2_974, ec2_622, rfl, rfl, hW976, hF981, hP982, by omega, ((hF977.1 10 rfl).trans (e934)), (e979), ((hF977.1 31 rfl).trans ((hF933.1 31 rfl).trans ((hF792.1 31 rfl).trans ((hF641.1 31 rfl).trans (e626))))), (e978), ec984, by omega, by omega, by omega, by omega, by omega, by first | exact Or.inr ((⟨by omega, by omega, by omega, by omega, by omega, (wL_call (last := 0) sf983 (by omega) (by omega) (by omega) ((show A973 30 (nu).toNat = mp from (congrFun ((hF977.2 30 rfl).trans ((hF933.2 30 rfl).trans ((hF792.2 30 rfl).trans ((hF641.2 30 rfl).trans (hF624.2 30 rfl))))) _).trans (e_mp)).trans (by omega : mp = 0)) ((show A973 29 (nu).toNat = pp from (congrFun ((hF977.2 29 rfl).trans ((hF933.2 29 rfl).trans ((hF792.2 29 rfl).trans ((hF641.2 29 rfl).trans (hF624.2 29 rfl))))) _).trans (e_pp)).trans (by omega : pp = pp)) (CA_eq (CA_nil (lo := nd + 1) (ND_f0 sf983)) (by omega) (by omega) (by omega) (by omega) (by omega))), (NX_nd sf983), by omega, by omega⟩))⟩
            · have _q : True := trivial
              refine jx_ld (pc' := 56) (l' := L635) (st' := [.int (i32 (nd))]) rfl (jl_iloadn gL635_2) ?_
              refine jx_rt (v := some (.int (i32 (nd)))) rfl rfl rfl rfl rfl rfl ?_
              exact ⟨_, _, _, at2_929, fk2_975, nd2_621, ln2_974, ec2_622, rfl, rfl, hW976, hF981, hP982, by omega, ((hF977.1 10 rfl).trans (e934)), (e979), ((hF977.1 31 rfl).trans ((hF933.1 31 rfl).trans ((hF792.1 31 rfl).trans ((hF641.1 31 rfl).trans (e626))))), (e978), ec984, by omega, by omega, by omega, by omega, by omega, by first | exact Or.inl (⟨by omega, by omega, by omega⟩)⟩
        · have _q : True := trivial
          refine jx_vr (pc' := 51) (as := [.int (i32 (0))]) (st := []) rfl rfl rfl rfl ⟨rfl, rfl, Nat.le_of_ble_eq_true rfl⟩ rfl rfl (c_need (dd := d) (hd := by omega) (hW := hW791) (g := 0) (ln := ln) (e_ln := show G786 9 = ln from ((hF792.1 9 rfl).trans ((hF641.1 9 rfl).trans ((hF624.1 9 rfl).trans (e_ln))))) (le := le) (e_le := show A787 4 (ln).toNat = le from (congrFun ((hF792.2 4 rfl).trans ((hF641.2 4 rfl).trans (hF624.2 4 rfl))) _).trans (e_le)) (at0 := at2_788) (e_at0 := show G786 10 = at2_788 from (e793)) (fk := fk2_790) (e_fk := show G786 16 = fk2_790 from (e795)) (tk0 := tk2_789) (e_tk0 := show G786 11 = tk2_789 from (e794))  (h_g := ⟨(by decide), (by decide)⟩)  (p_0 := by omega)) (fun o V' hq => ?_)
          obtain ⟨G992, A993, at2_994, tk2_995, fk2_996, rfl, rfl, hW997, hF998, e999, e1000, e1001, p1002, p1003, q1004⟩ := hq
          have hF1005 := Fr_tr hF799 hF998 (Fr_sub (by decide)) (Fr_sub (by decide))
          have hP1006 := Pf_f hP800 hF998 (by decide)
          have sf1007 : ND A993 (nd) (25) (nu) (0) (0) (0) (0) (0) := ND_ag (by omega) (Ag_fr hF998 (by decide)) sf801
          have ec1008 : ecn A993 (G992 31) = ec2_622 := (ecn_f (hF998.2 15 rfl) (hF998.1 31 rfl)).trans ec802
          have bat2_994 : (0 : Int) ≤ at2_994 ∧ at2_994 ≤ 3002 := e999 ▸ hW997.1 10
          have ztk2_995 := tz_b tk2_995
          have btk2_995 : (0 : Int) ≤ tk2_995 ∧ tk2_995 ≤ 5 := e1000 ▸ hW997.1 11
          have bfk2_996 : (0 : Int) ≤ fk2_996 ∧ fk2_996 ≤ 6 := e1001 ▸ hW997.1 16
          refine .inl ⟨rfl, ?_⟩
          rcases q1004 with ⟨a1009, a1010, a1011, a1012⟩ | ⟨a1013, a1014, a1015, a1016⟩
          · have _q : True := trivial
            refine jx_ld (pc' := 52) (l' := L635) (st' := [.ref 66]) rfl (jl_aloadn gL635_0) ?_
            refine jx_vr (pc' := 55) (as := []) (st := []) rfl rfl rfl rfl ⟨rfl, rfl, Nat.le_of_ble_eq_true rfl⟩ rfl rfl (c_endLine (dd := d) (hd := by omega) (hW := hW997)  (ln := ln) (e_ln := show G992 9 = ln from ((hF998.1 9 rfl).trans ((hF792.1 9 rfl).trans ((hF641.1 9 rfl).trans ((hF624.1 9 rfl).trans (e_ln)))))) (li := li) (e_li := show G992 3 = li from ((hF998.1 3 rfl).trans ((hF792.1 3 rfl).trans ((hF641.1 3 rfl).trans ((hF624.1 3 rfl).trans (e_li)))))) (fk := fk2_996) (e_fk := show G992 16 = fk2_996 from (e1001)) (tk0 := tk2_995) (e_tk0 := show G992 11 = tk2_995 from (e1000))    (p_0 := by omega)) (fun o V' hq => ?_)
            obtain ⟨G1017, A1018, ln2_1019, fk2_1020, rfl, rfl, hW1021, hF1022, e1023, e1024, q1025⟩ := hq
            have hF1026 := Fr_tr hF1005 hF1022 (Fr_sub (by decide)) (Fr_sub (by decide))
            have hP1027 := Pf_f hP1006 hF1022 (by decide)
            have sf1028 : ND A1018 (nd) (25) (nu) (0) (0) (0) (0) (0) := ND_ag (by omega) (Ag_fr hF1022 (by decide)) sf1007
            have ec1029 : ecn A1018 (G1017 31) = ec2_622 := (ecn_f (hF1022.2 15 rfl) (hF1022.1 31 rfl)).trans ec1008
            have bln2_1019 : (0 : Int) ≤ ln2_1019 ∧ ln2_1019 ≤ 3000 := e1023 ▸ hW1021.1 9
            have bfk2_1020 : (0 : Int) ≤ fk2_1020 ∧ fk2_1020 ≤ 6 := e1024 ▸ hW1021.1 16
            refine .inl ⟨rfl, ?_⟩
            rcases q1025 with ⟨a1030, a1031, a1032, a1033, a1034⟩ | ⟨a1035, a1036⟩
            · have _q : True := trivial
              exfalso
              omega
            · have _q : True := trivial
              refine jx_ld (pc' := 56) (l' := L635) (st' := [.int (i32 (nd))]) rfl (jl_iloadn gL635_2) ?_
              refine jx_rt (v := some (.int (i32 (nd)))) rfl rfl rfl rfl rfl rfl ?_
              exact ⟨_, _, _, at2_994, fk2_1020, nd2_621, ln2_1019, ec2_622, rfl, rfl, hW1021, hF1026, hP1027, by omega, ((hF1022.1 10 rfl).trans (e999)), (e1024), ((hF1022.1 31 rfl).trans ((hF998.1 31 rfl).trans ((hF792.1 31 rfl).trans ((hF641.1 31 rfl).trans (e626))))), (e1023), ec1029, by omega, by omega, by omega, by omega, by omega, by first | exact Or.inl (⟨by omega, by omega, by omega⟩)⟩
          · have _q : True := trivial
            exfalso
            omega
