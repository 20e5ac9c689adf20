set_option maxRecDepth 20000 in
set_option maxHeartbeats 4000000 in
theorem c_addTo {X : jX} {zz : Int} {dd : Nat} {c0 c1 : jC} {G : Nat → Int} {A : Nat → Nat → Int} {T : jH} {n last one : Int} (hd : 1 ≤ dd) (hW : Wk G A) (h_n : (-2147483648 : Int) ≤ n ∧ n ≤ 2147483647) (h_last : (-2147483648 : Int) ≤ last ∧ last ≤ 2147483647) (h_one : (-2147483648 : Int) ≤ one ∧ one ≤ 2147483647) (p_0 : 0 ≤ n ∧ n ≤ 6998) (p_1 : 0 ≤ last ∧ last ≤ 6998) (p_2 : zz ≤ n) (p_3 : last = 0 ∨ zz ≤ last) : wk X dd 300 [.ref 66, .int (i32 n), .int (i32 last), .int (i32 one)] (rV c0 c1 G A T) (fun o V' => ∃ (G' : Nat → Int) (A' : Nat → Nat → Int), V' = rV c0 c1 G' A' T ∧ o = .inl none ∧ Wk G' A' ∧ Fr [] [21, 22] G A G' A' ∧ Pf zz A A' ∧ (((last = 0) ∧ (A' = uA A 21 (n).toNat (one))) ∨ ((1 ≤ last) ∧ (A' = uA A 22 (last).toNat (one))))) := by
  obtain ⟨d, rfl⟩ : ∃ d, dd = d + 1 := ⟨dd - 1, by omega⟩
  refine wk_of (e := jm300) rfl (Nat.le_of_ble_eq_true rfl) ?_
  show wj X d jm300 (0, [(0, .ref 66), (1, .int (i32 (n))), (2, .int (i32 (last))), (3, .int (i32 (one)))], [], rV c0 c1 G A T) _
  have hF0 : Fr [] [21, 22] G A G A := Fr_rf
  have hP0 : Pf zz A A := Pf_rf
  refine jx_ld (pc' := 1) (l' := [(0, .ref 66), (1, .int (i32 (n))), (2, .int (i32 (last))), (3, .int (i32 (one)))]) (st' := [.int (i32 (last))]) rfl (jl_iloadn rfl) ?_
  refine jx_if_ne (pc' := 4) (tg := 14) rfl rfl rfl (Int.le_trans (by decide : (-2147483648 : Int) ≤ -2147483648) h_last.1) (Int.le_trans h_last.2 (by decide : (2147483647 : Int) ≤ 2147483647)) (fun h1 => ?_) (fun h1 => ?_)
  · have _q := h1
    refine jx_ld (pc' := 15) (l' := [(0, .ref 66), (1, .int (i32 (n))), (2, .int (i32 (last))), (3, .int (i32 (one)))]) (st' := [.ref 66]) rfl (jl_aloadn rfl) ?_
    refine jr_get (pc' := 18) (i := 39) (v := .ref 89) rfl rfl (by decide) rfl rfl ?_
    refine jx_ld (pc' := 19) (l' := [(0, .ref 66), (1, .int (i32 (n))), (2, .int (i32 (last))), (3, .int (i32 (one)))]) (st' := [.int (i32 (last)), .ref 89]) rfl (jl_iloadn rfl) ?_
    refine jx_ld (pc' := 20) (l' := [(0, .ref 66), (1, .int (i32 (n))), (2, .int (i32 (last))), (3, .int (i32 (one)))]) (st' := [.int (i32 (one)), .int (i32 (last)), .ref 89]) rfl (jl_iloadn rfl) ?_
    refine jr_st (pc' := 21) (i := 22) (m := 7000) (z := last) (y := one) rfl (by decide) rfl (by decide) (by omega) (by omega) rfl ?_
    have hW3 : Wk G (uA A 22 (last).toNat (one)) := Wk_a hW (show (-2147483648 : Int) ≤ one by omega) (show one ≤ (2147483647 : Int) by omega)
    have hF4 := Fr_a (z := one) (k := 22) (n := (last).toNat) hF0 (by decide)
    obtain ⟨A2, eA2⟩ : ∃ q, q = uA A 22 (last).toNat (one) := ⟨_, rfl⟩
    rw [← eA2]
    rw [← eA2] at hW3 hF4
    have q5 : A2 22 (last).toNat = one := by rw [eA2]; exact uA_eq
    have hP6 : Pf zz A A2 := eA2 ▸ Pf_a hP0 (z := last) (by omega) (by omega)
    refine jx_rt (v := none) rfl rfl rfl rfl rfl rfl ?_
    exact ⟨_, _, rfl, rfl, hW3, hF4, hP6, by first | exact Or.inr ((⟨by omega, (by first | rfl | exact eA2)⟩))⟩
  · have _q := h1
    refine jx_ld (pc' := 5) (l' := [(0, .ref 66), (1, .int (i32 (n))), (2, .int (i32 (last))), (3, .int (i32 (one)))]) (st' := [.ref 66]) rfl (jl_aloadn rfl) ?_
    refine jr_get (pc' := 8) (i := 38) (v := .ref 88) rfl rfl (by decide) rfl rfl ?_
    refine jx_ld (pc' := 9) (l' := [(0, .ref 66), (1, .int (i32 (n))), (2, .int (i32 (last))), (3, .int (i32 (one)))]) (st' := [.int (i32 (n)), .ref 88]) rfl (jl_iloadn rfl) ?_
    refine jx_ld (pc' := 10) (l' := [(0, .ref 66), (1, .int (i32 (n))), (2, .int (i32 (last))), (3, .int (i32 (one)))]) (st' := [.int (i32 (one)), .int (i32 (n)), .ref 88]) rfl (jl_iloadn rfl) ?_
    refine jr_st (pc' := 11) (i := 21) (m := 7000) (z := n) (y := one) rfl (by decide) rfl (by decide) (by omega) (by omega) rfl ?_
    have hW8 : Wk G (uA A 21 (n).toNat (one)) := Wk_a hW (show (-2147483648 : Int) ≤ one by omega) (show one ≤ (2147483647 : Int) by omega)
    have hF9 := Fr_a (z := one) (k := 21) (n := (n).toNat) hF0 (by decide)
    obtain ⟨A7, eA7⟩ : ∃ q, q = uA A 21 (n).toNat (one) := ⟨_, rfl⟩
    rw [← eA7]
    rw [← eA7] at hW8 hF9
    have q10 : A7 21 (n).toNat = one := by rw [eA7]; exact uA_eq
    have hP11 : Pf zz A A7 := eA7 ▸ Pf_a hP0 (z := n) (by omega) (by omega)
    refine jx_go (tg := 21) rfl rfl ?_
    refine jx_rt (v := none) rfl rfl rfl rfl rfl rfl ?_
    exact ⟨_, _, rfl, rfl, hW8, hF9, hP11, by first | exact Or.inl (⟨by omega, (by first | rfl | exact eA7)⟩)⟩
set_option maxRecDepth 20000 in
set_option maxHeartbeats 4000000 in
theorem c_readArgument {X : jX} {dd : Nat} {Vs : Nat → Prop} {sb : Int} {c0 c1 : jC} {G : Nat → Int} {A : Nat → Nat → Int} {T : jH} {pa : Int} {ln le at0 fk op0 nd tk0 kp zp : Int} (hd : 70 ≤ dd) (hW : Wk G A) (e_ln : G 9 = ln) (e_le : A 4 (ln).toNat = le) (e_at0 : G 10 = at0) (e_fk : G 16 = fk) (e_op0 : G 15 = op0) (e_nd : G 31 = nd) (e_tk0 : G 11 = tk0) (e_kp : A 7 (pa).toNat = kp) (e_zp : A 8 (pa).toNat = zp) (i_SV : SV Vs sb G A) (h_pa : (-2147483648 : Int) ≤ pa ∧ pa ≤ 2147483647) (p_0 : 0 ≤ op0) (p_1 : op0 ≤ 9) (p_2 : op0 ≤ 8 ∨ 1 ≤ fk) (p_3 : nd ≤ 2 * at0 - tz tk0 + 47) (p_4 : at0 ≤ le) (p_5 : fk = 0) (p_6 : op0 ≤ 8) (p_7 : 0 ≤ pa ∧ pa ≤ 208) (p_8 : 5 ≤ kp ∧ kp ≤ 8) (p_9 : pa < sb) : wk X dd 306 [.ref 66, .int (i32 pa)] (rV c0 c1 G A T) (fun o V' => ∃ (G' : Nat → Int) (A' : Nat → Nat → Int) (r : Int) (at2 : Int) (fk2 : Int) (op2 : Int) (nd2 : Int) (tk2 : Int), V' = rV c0 c1 G' A' T ∧ o = .inl (some (.int (i32 r))) ∧ Wk G' A' ∧ Fr [10, 11, 12, 13, 14, 15, 16, 17, 18, 31] [15, 16, 17, 18, 19, 20, 21, 22, 24, 28] G A G' A' ∧ Pf nd A A' ∧ ((-2147483648 : Int) ≤ r ∧ r ≤ 2147483647) ∧ G' 10 = at2 ∧ G' 16 = fk2 ∧ G' 15 = op2 ∧ G' 31 = nd2 ∧ G' 11 = tk2 ∧ (at0 ≤ at2) ∧ (at2 ≤ le) ∧ (nd ≤ nd2) ∧ (op2 = op0) ∧ (0 ≤ r) ∧ (r ≤ nd2) ∧ (((fk = 0) ∧ (1 ≤ fk2) ∧ (nd2 - nd ≤ (2 * at2 - tz tk2) - (2 * at0 - tz tk0) + 3)) ∨ ((fk = 0) ∧ (fk2 = 0) ∧ (nd2 - nd ≤ (2 * at2 - tz tk2) - (2 * at0 - tz tk0) + 1) ∧ (nd ≤ r) ∧ (r < nd2) ∧ (wA A' Vs sb (pa) (r) (nd) (nd2)) ∧ (NX A' (r))))) := by
  obtain ⟨d, rfl⟩ : ∃ d, dd = d + 1 := ⟨dd - 1, by omega⟩
  refine wk_of (e := jm306) rfl (Nat.le_of_ble_eq_true rfl) ?_
  show wj X d jm306 (0, [(0, .ref 66), (1, .int (i32 (pa)))], [], rV c0 c1 G A T) _
  have hF0 : Fr [10, 11, 12, 13, 14, 15, 16, 17, 18, 31] [15, 16, 17, 18, 19, 20, 21, 22, 24, 28] G A G A := Fr_rf
  have hP0 : Pf nd A A := Pf_rf
  have b_ln : (0 : Int) ≤ ln ∧ ln ≤ 3000 := e_ln ▸ hW.1 9
  have b_le : (0 : Int) ≤ le ∧ le ≤ 3000 := e_le ▸ hW.2 4 _
  have b_at0 : (0 : Int) ≤ at0 ∧ at0 ≤ 3002 := e_at0 ▸ hW.1 10
  have b_fk : (0 : Int) ≤ fk ∧ fk ≤ 6 := e_fk ▸ hW.1 16
  have b_op0 : (-2147483648 : Int) ≤ op0 ∧ op0 ≤ 2147483647 := e_op0 ▸ hW.1 15
  have b_nd : (0 : Int) ≤ nd ∧ nd ≤ 6999 := e_nd ▸ hW.1 31
  have z_tk0 := tz_f tk0
  have b_tk0 : (0 : Int) ≤ tk0 ∧ tk0 ≤ 5 := e_tk0 ▸ hW.1 11
  have b_kp : (0 : Int) ≤ kp ∧ kp ≤ 14 := e_kp ▸ hW.2 7 _
  have b_zp : (-2147483648 : Int) ≤ zp ∧ zp ≤ 2147483647 := e_zp ▸ hW.2 8 _
  refine jx_ld (pc' := 1) (l' := [(0, .ref 66), (1, .int (i32 (pa)))]) (st' := [.ref 66]) rfl (jl_aloadn rfl) ?_
  refine jr_get (pc' := 4) (i := 21) (v := .ref 74) rfl rfl (by decide) rfl rfl ?_
  refine jx_ld (pc' := 5) (l' := [(0, .ref 66), (1, .int (i32 (pa)))]) (st' := [.int (i32 (pa)), .ref 74]) rfl (jl_iloadn rfl) ?_
  refine jr_ldv (pc' := 6) (i := 7) (m := 260) (z := pa) (y := kp) rfl (by decide) rfl (by decide) (by omega) (by omega) rfl (show A 7 (pa).toNat = kp from (e_kp)) ?_
  refine jx_ld (pc' := 7) (l' := jSto1 [(0, .ref 66), (1, .int (i32 (pa)))] 2 (.int (i32 (kp)))) (st' := []) rfl rfl ?_
  obtain ⟨L1, eL1⟩ : ∃ q, q = jSto1 [(0, .ref 66), (1, .int (i32 (pa)))] 2 (.int (i32 (kp))) := ⟨_, rfl⟩
  rw [← eL1]
  have gL1_0 : jGet L1 0 = some (.ref 66) := eL1 ▸ jg_ne (by decide) (rfl : jGet [(0, .ref 66), (1, .int (i32 (pa)))] 0 = some (.ref 66)) rfl
  have gL1_1 : jGet L1 1 = some (.int (i32 (pa))) := eL1 ▸ jg_ne (by decide) (rfl : jGet [(0, .ref 66), (1, .int (i32 (pa)))] 1 = some (.int (i32 (pa)))) rfl
  have gL1_2 : jGet L1 2 = some (.int (i32 (kp))) := eL1 ▸ jg_eq
  refine jx_ar (pc' := 8) (st' := [.int (i32 (0))]) rfl rfl rfl rfl ?_
  refine jx_ld (pc' := 9) (l' := jSto1 L1 3 (.int (i32 (0)))) (st' := []) rfl rfl ?_
  obtain ⟨L2, eL2⟩ : ∃ q, q = jSto1 L1 3 (.int (i32 (0))) := ⟨_, rfl⟩
  rw [← eL2]
  have gL2_0 : jGet L2 0 = some (.ref 66) := eL2 ▸ jg_ne (by decide) gL1_0 rfl
  have gL2_1 : jGet L2 1 = some (.int (i32 (pa))) := eL2 ▸ jg_ne (by decide) gL1_1 rfl
  have gL2_2 : jGet L2 2 = some (.int (i32 (kp))) := eL2 ▸ jg_ne (by decide) gL1_2 rfl
  have gL2_3 : jGet L2 3 = some (.int (i32 (0))) := eL2 ▸ jg_eq
  refine jx_ld (pc' := 10) (l' := L2) (st' := [.ref 66]) rfl (jl_aloadn gL2_0) ?_
  refine jx_ar (pc' := 12) (st' := [.int (i32 (41)), .ref 66]) rfl rfl rfl rfl ?_
  have b3 : (-2147483648 : Int) ≤ G 13 ∧ G 13 ≤ 2147483647 := hW.1 13
  refine jx_vr (pc' := 15) (as := [.int (i32 (41))]) (st := []) rfl rfl rfl rfl ⟨rfl, rfl, Nat.le_of_ble_eq_true rfl⟩ rfl rfl (c_is (dd := d) (hd := by omega) (hW := hW) (k := 41) (tk := tk0) (e_tk := show G 11 = tk0 from (e_tk0)) (tn := G 13) (e_tn := show G 13 = G 13 from rfl)  (h_k := ⟨(by decide), (by decide)⟩)  ) (fun o V' hq => ?_)
  obtain ⟨r4, rfl, rfl, b5, q6⟩ := hq
  refine .inr ⟨_, rfl, ?_⟩
  rcases q6 with ⟨rfl, a7, a8, a9⟩ | rfl
  · have _q : True := trivial
    refine jx_if_eq (pc' := 18) (tg := 30) rfl rfl rfl (by decide) (by decide) (fun h10 => ?_) (fun h10 => ?_)
    · have _q := h10
      exact absurd h10 (by omega)
    · have _q := h10
      refine jx_ld (pc' := 19) (l' := L2) (st' := [.ref 66]) rfl (jl_aloadn gL2_0) ?_
      refine jx_ar (pc' := 20) (st' := [.int (i32 (4)), .ref 66]) rfl rfl rfl rfl ?_
      refine jx_ld (pc' := 21) (l' := L2) (st' := [.ref 66, .int (i32 (4)), .ref 66]) rfl (jl_aloadn gL2_0) ?_
      have b11 : (-3000 : Int) ≤ G 12 ∧ G 12 ≤ 3002 := hW.1 12
      refine jr_get (pc' := 24) (i := 12) (v := .int (i32 (G 12))) rfl rfl (by decide) rfl rfl ?_
      refine jx_vr (pc' := 27) (as := [.int (i32 (4)), .int (i32 (G 12))]) (st := []) rfl rfl rfl rfl ⟨rfl, rfl, Nat.le_of_ble_eq_true rfl⟩ rfl rfl (c_fail (dd := d) (hd := by omega) (hW := hW) (kind := 4) (place := G 12) (fk := fk) (e_fk := show G 16 = fk from (e_fk))  (h_kind := ⟨(by decide), (by decide)⟩) (h_place := ⟨(Int.le_trans (by decide : (-2147483648 : Int) ≤ -3000) b11.1), (Int.le_trans b11.2 (by decide : (3002 : Int) ≤ 2147483647))⟩)  (p_0 := by omega) (p_1 := by omega)) (fun o V' hq => ?_)
      obtain ⟨G12, A13, fk2_14, rfl, rfl, hW15, hF16, e17, p18, -⟩ := hq
      have hF20 := Fr_tr hF0 hF16 (Fr_sub (by decide)) (Fr_sub (by decide))
      have hP21 := Pf_f hP0 hF16 (by decide)
      have bfk2_14 : (0 : Int) ≤ fk2_14 ∧ fk2_14 ≤ 6 := e17 ▸ hW15.1 16
      refine .inl ⟨rfl, ?_⟩
      refine jx_go (tg := 172) rfl rfl ?_
      refine jx_ld (pc' := 173) (l' := L2) (st' := [.ref 66]) rfl (jl_aloadn gL2_0) ?_
      refine jx_ar (pc' := 175) (st' := [.int (i32 (7)), .ref 66]) rfl rfl rfl rfl ?_
      refine jx_ld (pc' := 176) (l' := L2) (st' := [.int (i32 (0)), .int (i32 (7)), .ref 66]) rfl (jl_iloadn gL2_3) ?_
      refine jx_ld (pc' := 177) (l' := L2) (st' := [.int (i32 (pa)), .int (i32 (0)), .int (i32 (7)), .ref 66]) rfl (jl_iloadn gL2_1) ?_
      refine jx_ar (pc' := 178) (st' := [.int (i32 (0)), .int (i32 (pa)), .int (i32 (0)), .int (i32 (7)), .ref 66]) rfl rfl rfl rfl ?_
      refine jx_ar (pc' := 179) (st' := [.int (i32 (0)), .int (i32 (0)), .int (i32 (pa)), .int (i32 (0)), .int (i32 (7)), .ref 66]) rfl rfl rfl rfl ?_
      refine jx_vr (pc' := 182) (as := [.int (i32 (7)), .int (i32 (0)), .int (i32 (pa)), .int (i32 (0)), .int (i32 (0))]) (st := []) rfl rfl rfl rfl ⟨rfl, rfl, Nat.le_of_ble_eq_true rfl⟩ rfl rfl (c_node (dd := d) (hd := by omega) (hW := hW15) (kind := 7) (a := 0) (b := pa) (c := 0) (e := 0) (nd := nd) (e_nd := show G12 31 = nd from ((hF16.1 31 rfl).trans (e_nd)))  (h_kind := ⟨(by decide), (by decide)⟩) (h_a := ⟨(by decide), (by decide)⟩) (h_b := ⟨(Int.le_trans (by decide : (-2147483648 : Int) ≤ -2147483648) h_pa.1), (Int.le_trans h_pa.2 (by decide : (2147483647 : Int) ≤ 2147483647))⟩) (h_c := ⟨(by decide), (by decide)⟩) (h_e := ⟨(by decide), (by decide)⟩)  (p_0 := by omega) (p_1 := by omega)) (fun o V' hq => ?_)
      obtain ⟨G22, A23, nd2_24, rfl, rfl, hW25, hF26, hQ27, e28, p29, p30, -⟩ := hq
      have hF32 := Fr_tr hF20 hF26 (Fr_sub (by decide)) (Fr_sub (by decide))
      have hP33 := Pf_tr hP21 hQ27 (by omega)
      have bnd2_24 : (0 : Int) ≤ nd2_24 ∧ nd2_24 ≤ 6999 := e28 ▸ hW25.1 31
      refine .inr ⟨_, rfl, ?_⟩
      refine jx_rt (v := some (.int (i32 (nd)))) rfl rfl rfl rfl rfl rfl ?_
      have z34 := tz_f (tk0)
      exact ⟨_, _, _, at0, fk2_14, op0, nd2_24, tk0, rfl, rfl, hW25, hF32, hP33, by omega, ((hF26.1 10 rfl).trans ((hF16.1 10 rfl).trans (e_at0))), ((hF26.1 16 rfl).trans (e17)), ((hF26.1 15 rfl).trans ((hF16.1 15 rfl).trans (e_op0))), (e28), ((hF26.1 11 rfl).trans ((hF16.1 11 rfl).trans (e_tk0))), by omega, by omega, by omega, by omega, by omega, by omega, by first | exact Or.inl (⟨by omega, by omega, by omega⟩)⟩
  · have _q : True := trivial
    refine jx_if_eq (pc' := 18) (tg := 30) rfl rfl rfl (by decide) (by decide) (fun h35 => ?_) (fun h35 => ?_)
    · have _q := h35
      refine jx_ld (pc' := 31) (l' := L2) (st' := [.int (i32 (kp))]) rfl (jl_iloadn gL2_2) ?_
      refine jx_ar (pc' := 32) (st' := [.int (i32 (5)), .int (i32 (kp))]) rfl rfl rfl rfl ?_
      refine jx_icmp_ne (pc' := 35) (tg := 43) rfl rfl rfl (Int.le_trans (by decide : (-2147483648 : Int) ≤ 0) b_kp.1) (Int.le_trans b_kp.2 (by decide : (14 : Int) ≤ 2147483647)) (by decide) (by decide) (fun h36 => ?_) (fun h36 => ?_)
      · have _q := h36
        refine jx_ld (pc' := 44) (l' := L2) (st' := [.ref 66]) rfl (jl_aloadn gL2_0) ?_
        have z37 := tz_f (tk0)
        refine jr_get (pc' := 47) (i := 11) (v := .int (i32 (tk0))) rfl rfl (by decide) (rFv_eq (by decide) (show G 11 = tk0 from (e_tk0))) rfl ?_
        refine jx_ar (pc' := 48) (st' := [.int (i32 (1)), .int (i32 (tk0))]) rfl rfl rfl rfl ?_
        refine jx_icmp_eq (pc' := 51) (tg := 63) rfl rfl rfl (Int.le_trans (by decide : (-2147483648 : Int) ≤ 0) b_tk0.1) (Int.le_trans b_tk0.2 (by decide : (5 : Int) ≤ 2147483647)) (by decide) (by decide) (fun h38 => ?_) (fun h38 => ?_)
        · have _q := h38
          refine jx_ld (pc' := 64) (l' := L2) (st' := [.ref 66]) rfl (jl_aloadn gL2_0) ?_
          have b39 : (-3000 : Int) ≤ G 12 ∧ G 12 ≤ 3002 := hW.1 12
          refine jr_get (pc' := 67) (i := 12) (v := .int (i32 (G 12))) rfl rfl (by decide) rfl rfl ?_
          refine jx_ld (pc' := 69) (l' := jSto1 L2 4 (.int (i32 (G 12)))) (st' := []) rfl rfl ?_
          obtain ⟨L40, eL40⟩ : ∃ q, q = jSto1 L2 4 (.int (i32 (G 12))) := ⟨_, rfl⟩
          rw [← eL40]
          have gL40_0 : jGet L40 0 = some (.ref 66) := eL40 ▸ jg_ne (by decide) gL2_0 rfl
          have gL40_1 : jGet L40 1 = some (.int (i32 (pa))) := eL40 ▸ jg_ne (by decide) gL2_1 rfl
          have gL40_2 : jGet L40 2 = some (.int (i32 (kp))) := eL40 ▸ jg_ne (by decide) gL2_2 rfl
          have gL40_3 : jGet L40 3 = some (.int (i32 (0))) := eL40 ▸ jg_ne (by decide) gL2_3 rfl
          have gL40_4 : jGet L40 4 = some (.int (i32 (G 12))) := eL40 ▸ jg_eq
          refine jx_ld (pc' := 70) (l' := L40) (st' := [.ref 66]) rfl (jl_aloadn gL40_0) ?_
          refine jx_vr (pc' := 73) (as := []) (st := []) rfl rfl rfl rfl ⟨rfl, rfl, Nat.le_of_ble_eq_true rfl⟩ rfl rfl (c_lookUp (dd := d) (hd := by omega) (hW := hW)  (fk := fk) (e_fk := show G 16 = fk from (e_fk)) (i_SV := (SV_ext (rfl) (rfl) i_SV))   ) (fun o V' hq => ?_)
          obtain ⟨G41, A42, r43, fk2_44, rfl, rfl, hW45, hF46, b47, e48, q49⟩ := hq
          have hF50 := Fr_tr hF0 hF46 (Fr_sub (by decide)) (Fr_sub (by decide))
          have hP51 := Pf_f hP0 hF46 (by decide)
          have bfk2_44 : (0 : Int) ≤ fk2_44 ∧ fk2_44 ≤ 6 := e48 ▸ hW45.1 16
          refine .inr ⟨_, rfl, ?_⟩
          rcases q49 with ⟨a52, a53⟩ | ⟨a54, a55, a56, a57⟩
          · have _q : True := trivial
            refine jx_ld (pc' := 75) (l' := jSto1 L40 5 (.int (i32 (r43)))) (st' := []) rfl rfl ?_
            obtain ⟨L58, eL58⟩ : ∃ q, q = jSto1 L40 5 (.int (i32 (r43))) := ⟨_, rfl⟩
            rw [← eL58]
            have gL58_0 : jGet L58 0 = some (.ref 66) := eL58 ▸ jg_ne (by decide) gL40_0 rfl
            have gL58_1 : jGet L58 1 = some (.int (i32 (pa))) := eL58 ▸ jg_ne (by decide) gL40_1 rfl
            have gL58_2 : jGet L58 2 = some (.int (i32 (kp))) := eL58 ▸ jg_ne (by decide) gL40_2 rfl
            have gL58_3 : jGet L58 3 = some (.int (i32 (0))) := eL58 ▸ jg_ne (by decide) gL40_3 rfl
            have gL58_4 : jGet L58 4 = some (.int (i32 (G 12))) := eL58 ▸ jg_ne (by decide) gL40_4 rfl
            have gL58_5 : jGet L58 5 = some (.int (i32 (r43))) := eL58 ▸ jg_eq
            refine jx_ld (pc' := 76) (l' := L58) (st' := [.ref 66]) rfl (jl_aloadn gL58_0) ?_
            refine jx_vr (pc' := 79) (as := []) (st := []) rfl rfl rfl rfl ⟨rfl, rfl, Nat.le_of_ble_eq_true rfl⟩ rfl rfl (c_bad (dd := d) (hd := by omega) (hW := hW45)  (fk := fk2_44) (e_fk := show G41 16 = fk2_44 from (e48))    ) (fun o V' hq => ?_)
            obtain ⟨r59, rfl, rfl, b60, q61⟩ := hq
            refine .inr ⟨_, rfl, ?_⟩
            rcases q61 with ⟨rfl, a62⟩ | ⟨rfl, a63⟩
            · have _q : True := trivial
              refine jx_if_eq (pc' := 82) (tg := 84) rfl rfl rfl (by decide) (by decide) (fun h64 => ?_) (fun h64 => ?_)
              · have _q := h64
                exact absurd h64 (by omega)
              · have _q := h64
                refine jx_ar (pc' := 83) (st' := [.int (i32 (0))]) rfl rfl rfl rfl ?_
                refine jx_rt (v := some (.int (i32 (0)))) rfl rfl rfl rfl rfl rfl ?_
                have z65 := tz_f (tk0)
                exact ⟨_, _, _, at0, fk2_44, op0, nd, tk0, rfl, rfl, hW45, hF50, hP51, by omega, ((hF46.1 10 rfl).trans (e_at0)), (e48), ((hF46.1 15 rfl).trans (e_op0)), ((hF46.1 31 rfl).trans (e_nd)), ((hF46.1 11 rfl).trans (e_tk0)), by omega, by omega, by omega, by omega, by omega, by omega, by first | exact Or.inl (⟨by omega, by omega, by omega⟩)⟩
            · have _q : True := trivial
              exfalso
              omega
          · have _q : True := trivial
            refine jx_ld (pc' := 75) (l' := jSto1 L40 5 (.int (i32 (r43)))) (st' := []) rfl rfl ?_
            obtain ⟨L66, eL66⟩ : ∃ q, q = jSto1 L40 5 (.int (i32 (r43))) := ⟨_, rfl⟩
            rw [← eL66]
            have gL66_0 : jGet L66 0 = some (.ref 66) := eL66 ▸ jg_ne (by decide) gL40_0 rfl
            have gL66_1 : jGet L66 1 = some (.int (i32 (pa))) := eL66 ▸ jg_ne (by decide) gL40_1 rfl
            have gL66_2 : jGet L66 2 = some (.int (i32 (kp))) := eL66 ▸ jg_ne (by decide) gL40_2 rfl
            have gL66_3 : jGet L66 3 = some (.int (i32 (0))) := eL66 ▸ jg_ne (by decide) gL40_3 rfl
            have gL66_4 : jGet L66 4 = some (.int (i32 (G 12))) := eL66 ▸ jg_ne (by decide) gL40_4 rfl
            have gL66_5 : jGet L66 5 = some (.int (i32 (r43))) := eL66 ▸ jg_eq
            refine jx_ld (pc' := 76) (l' := L66) (st' := [.ref 66]) rfl (jl_aloadn gL66_0) ?_
            refine jx_vr (pc' := 79) (as := []) (st := []) rfl rfl rfl rfl ⟨rfl, rfl, Nat.le_of_ble_eq_true rfl⟩ rfl rfl (c_bad (dd := d) (hd := by omega) (hW := hW45)  (fk := fk2_44) (e_fk := show G41 16 = fk2_44 from (e48))    ) (fun o V' hq => ?_)
            obtain ⟨r67, rfl, rfl, b68, q69⟩ := hq
            refine .inr ⟨_, rfl, ?_⟩
            rcases q69 with ⟨rfl, a70⟩ | ⟨rfl, a71⟩
            · have _q : True := trivial
              exfalso
              omega
            · have _q : True := trivial
              refine jx_if_eq (pc' := 82) (tg := 84) rfl rfl rfl (by decide) (by decide) (fun h72 => ?_) (fun h72 => ?_)
              · have _q := h72
                refine jx_ld (pc' := 85) (l' := L66) (st' := [.int (i32 (kp))]) rfl (jl_iloadn gL66_2) ?_
                refine jx_ar (pc' := 87) (st' := [.int (i32 (7)), .int (i32 (kp))]) rfl rfl rfl rfl ?_
                refine jx_icmp_ne (pc' := 90) (tg := 128) rfl rfl rfl (Int.le_trans (by decide : (-2147483648 : Int) ≤ 0) b_kp.1) (Int.le_trans b_kp.2 (by decide : (14 : Int) ≤ 2147483647)) (by decide) (by decide) (fun h73 => ?_) (fun h73 => ?_)
                · have _q := h73
                  refine jx_ld (pc' := 129) (l' := L66) (st' := [.ref 66]) rfl (jl_aloadn gL66_0) ?_
                  refine jx_vr (pc' := 132) (as := []) (st := []) rfl rfl rfl rfl ⟨rfl, rfl, Nat.le_of_ble_eq_true rfl⟩ rfl rfl (c_next (dd := d) (hd := by omega) (hW := hW45)  (ln := ln) (e_ln := show G41 9 = ln from ((hF46.1 9 rfl).trans (e_ln))) (le := le) (e_le := show A42 4 (ln).toNat = le from (congrFun (hF46.2 4 rfl) _).trans (e_le)) (at0 := at0) (e_at0 := show G41 10 = at0 from ((hF46.1 10 rfl).trans (e_at0)))    (p_0 := by omega)) (fun o V' hq => ?_)
                  obtain ⟨G74, A75, at2_76, tk2_77, rfl, rfl, hW78, hF79, e80, e81, p82, p83, p84, -⟩ := hq
                  have hF86 := Fr_tr hF50 hF79 (Fr_sub (by decide)) (Fr_sub (by decide))
                  have hP87 := Pf_f hP51 hF79 (by decide)
                  have bat2_76 : (0 : Int) ≤ at2_76 ∧ at2_76 ≤ 3002 := e80 ▸ hW78.1 10
                  have ztk2_77 := tz_b tk2_77
                  have btk2_77 : (0 : Int) ≤ tk2_77 ∧ tk2_77 ≤ 5 := e81 ▸ hW78.1 11
                  refine .inl ⟨rfl, ?_⟩
                  refine jx_ld (pc' := 133) (l' := L66) (st' := [.int (i32 (kp))]) rfl (jl_iloadn gL66_2) ?_
                  refine jx_ar (pc' := 135) (st' := [.int (i32 (7)), .int (i32 (kp))]) rfl rfl rfl rfl ?_
                  refine jx_icmp_ne (pc' := 138) (tg := 152) rfl rfl rfl (Int.le_trans (by decide : (-2147483648 : Int) ≤ 0) b_kp.1) (Int.le_trans b_kp.2 (by decide : (14 : Int) ≤ 2147483647)) (by decide) (by decide) (fun h88 => ?_) (fun h88 => ?_)
                  · have _q := h88
                    refine jx_ld (pc' := 153) (l' := L66) (st' := [.ref 66]) rfl (jl_aloadn gL66_0) ?_
                    refine jx_ld (pc' := 155) (l' := L66) (st' := [.int (i32 (r43)), .ref 66]) rfl (jl_iload gL66_5) ?_
                    refine jx_ld (pc' := 157) (l' := L66) (st' := [.int (i32 (G 12)), .int (i32 (r43)), .ref 66]) rfl (jl_iload gL66_4) ?_
                    refine jx_ld (pc' := 158) (l' := L66) (st' := [.int (i32 (kp)), .int (i32 (G 12)), .int (i32 (r43)), .ref 66]) rfl (jl_iloadn gL66_2) ?_
                    refine jx_ar (pc' := 160) (st' := [.int (i32 (8)), .int (i32 (kp)), .int (i32 (G 12)), .int (i32 (r43)), .ref 66]) rfl rfl rfl rfl ?_
                    refine jx_icmp_ne (pc' := 163) (tg := 167) rfl rfl rfl (Int.le_trans (by decide : (-2147483648 : Int) ≤ 0) b_kp.1) (Int.le_trans b_kp.2 (by decide : (14 : Int) ≤ 2147483647)) (by decide) (by decide) (fun h89 => ?_) (fun h89 => ?_)
                    · have _q := h89
                      refine jx_ar (pc' := 168) (st' := [.int (i32 (0)), .int (i32 (G 12)), .int (i32 (r43)), .ref 66]) rfl rfl rfl rfl ?_
                      refine jx_vr (pc' := 171) (as := [.int (i32 (r43)), .int (i32 (G 12)), .int (i32 (0))]) (st := []) rfl rfl rfl rfl ⟨rfl, rfl, Nat.le_of_ble_eq_true rfl⟩ rfl rfl (c_readBehind (dd := d) (hd := by omega) (hW := hW78) (s := r43) (place := G 12) (ch := 0) (ln := ln) (e_ln := show G74 9 = ln from ((hF79.1 9 rfl).trans ((hF46.1 9 rfl).trans (e_ln)))) (le := le) (e_le := show A75 4 (ln).toNat = le from (congrFun ((hF79.2 4 rfl).trans (hF46.2 4 rfl)) _).trans (e_le)) (at0 := at2_76) (e_at0 := show G74 10 = at2_76 from (e80)) (fk := fk2_44) (e_fk := show G74 16 = fk2_44 from ((hF79.1 16 rfl).trans (e48))) (op0 := op0) (e_op0 := show G74 15 = op0 from ((hF79.1 15 rfl).trans ((hF46.1 15 rfl).trans (e_op0)))) (nd := nd) (e_nd := show G74 31 = nd from ((hF79.1 31 rfl).trans ((hF46.1 31 rfl).trans (e_nd)))) (tk0 := tk2_77) (e_tk0 := show G74 11 = tk2_77 from (e81)) (i_SV := (SV_ext (((hF79.1 29 rfl).trans (hF46.1 29 rfl))) (((hF79.2 14 rfl).trans (hF46.2 14 rfl))) i_SV)) (h_s := ⟨(Int.le_trans (by decide : (-2147483648 : Int) ≤ -2147483648) b47.1), (Int.le_trans b47.2 (by decide : (2147483647 : Int) ≤ 2147483647))⟩) (h_place := ⟨(Int.le_trans (by decide : (-2147483648 : Int) ≤ -3000) b39.1), (Int.le_trans b39.2 (by decide : (3002 : Int) ≤ 2147483647))⟩) (h_ch := ⟨(by decide), (by decide)⟩)  (p_0 := by omega) (p_1 := by omega) (p_2 := by omega) (p_3 := by omega) (p_4 := by omega) (p_5 := by omega) (p_6 := by omega) (p_7 := by omega) (p_8 := by omega) (p_9 := a57)) (fun o V' hq => ?_)
                      obtain ⟨G90, A91, r92, at2_93, fk2_94, op2_95, nd2_96, tk2_97, rfl, rfl, hW98, hF99, hQ100, b101, e102, e103, e104, e105, e106, p107, p108, p109, p110, p111, p112, q113⟩ := hq
                      have hF114 := Fr_tr hF86 hF99 (Fr_sub (by decide)) (Fr_sub (by decide))
                      have hP115 := Pf_tr hP87 hQ100 (by omega)
                      have bat2_93 : (0 : Int) ≤ at2_93 ∧ at2_93 ≤ 3002 := e102 ▸ hW98.1 10
                      have bfk2_94 : (0 : Int) ≤ fk2_94 ∧ fk2_94 ≤ 6 := e103 ▸ hW98.1 16
                      have bop2_95 : (-2147483648 : Int) ≤ op2_95 ∧ op2_95 ≤ 2147483647 := e104 ▸ hW98.1 15
                      have bnd2_96 : (0 : Int) ≤ nd2_96 ∧ nd2_96 ≤ 6999 := e105 ▸ hW98.1 31
                      have ztk2_97 := tz_b tk2_97
                      have btk2_97 : (0 : Int) ≤ tk2_97 ∧ tk2_97 ≤ 5 := e106 ▸ hW98.1 11
                      refine .inr ⟨_, rfl, ?_⟩
                      rcases q113 with ⟨a116, a117, a118⟩ | ⟨a119, a120, a121, a122⟩
                      · have _q : True := trivial
                        refine jx_ld (pc' := 172) (l' := jSto1 L66 3 (.int (i32 (r92)))) (st' := []) rfl rfl ?_
                        obtain ⟨L123, eL123⟩ : ∃ q, q = jSto1 L66 3 (.int (i32 (r92))) := ⟨_, rfl⟩
                        rw [← eL123]
                        have gL123_0 : jGet L123 0 = some (.ref 66) := eL123 ▸ jg_ne (by decide) gL66_0 rfl
                        have gL123_1 : jGet L123 1 = some (.int (i32 (pa))) := eL123 ▸ jg_ne (by decide) gL66_1 rfl
                        have gL123_2 : jGet L123 2 = some (.int (i32 (kp))) := eL123 ▸ jg_ne (by decide) gL66_2 rfl
                        have gL123_4 : jGet L123 4 = some (.int (i32 (G 12))) := eL123 ▸ jg_ne (by decide) gL66_4 rfl
                        have gL123_5 : jGet L123 5 = some (.int (i32 (r43))) := eL123 ▸ jg_ne (by decide) gL66_5 rfl
                        have gL123_3 : jGet L123 3 = some (.int (i32 (r92))) := eL123 ▸ jg_eq
                        refine jx_ld (pc' := 173) (l' := L123) (st' := [.ref 66]) rfl (jl_aloadn gL123_0) ?_
                        refine jx_ar (pc' := 175) (st' := [.int (i32 (7)), .ref 66]) rfl rfl rfl rfl ?_
                        refine jx_ld (pc' := 176) (l' := L123) (st' := [.int (i32 (r92)), .int (i32 (7)), .ref 66]) rfl (jl_iloadn gL123_3) ?_
                        refine jx_ld (pc' := 177) (l' := L123) (st' := [.int (i32 (pa)), .int (i32 (r92)), .int (i32 (7)), .ref 66]) rfl (jl_iloadn gL123_1) ?_
                        refine jx_ar (pc' := 178) (st' := [.int (i32 (0)), .int (i32 (pa)), .int (i32 (r92)), .int (i32 (7)), .ref 66]) rfl rfl rfl rfl ?_
                        refine jx_ar (pc' := 179) (st' := [.int (i32 (0)), .int (i32 (0)), .int (i32 (pa)), .int (i32 (r92)), .int (i32 (7)), .ref 66]) rfl rfl rfl rfl ?_
                        refine jx_vr (pc' := 182) (as := [.int (i32 (7)), .int (i32 (r92)), .int (i32 (pa)), .int (i32 (0)), .int (i32 (0))]) (st := []) rfl rfl rfl rfl ⟨rfl, rfl, Nat.le_of_ble_eq_true rfl⟩ rfl rfl (c_node (dd := d) (hd := by omega) (hW := hW98) (kind := 7) (a := r92) (b := pa) (c := 0) (e := 0) (nd := nd2_96) (e_nd := show G90 31 = nd2_96 from (e105))  (h_kind := ⟨(by decide), (by decide)⟩) (h_a := ⟨(Int.le_trans (by decide : (-2147483648 : Int) ≤ -2147483648) b101.1), (Int.le_trans b101.2 (by decide : (2147483647 : Int) ≤ 2147483647))⟩) (h_b := ⟨(Int.le_trans (by decide : (-2147483648 : Int) ≤ -2147483648) h_pa.1), (Int.le_trans h_pa.2 (by decide : (2147483647 : Int) ≤ 2147483647))⟩) (h_c := ⟨(by decide), (by decide)⟩) (h_e := ⟨(by decide), (by decide)⟩)  (p_0 := by omega) (p_1 := by omega)) (fun o V' hq => ?_)
                        obtain ⟨G124, A125, nd2_126, rfl, rfl, hW127, hF128, hQ129, e130, p131, p132, -⟩ := hq
                        have hF134 := Fr_tr hF114 hF128 (Fr_sub (by decide)) (Fr_sub (by decide))
                        have hP135 := Pf_tr hP115 hQ129 (by omega)
                        have bnd2_126 : (0 : Int) ≤ nd2_126 ∧ nd2_126 ≤ 6999 := e130 ▸ hW127.1 31
                        refine .inr ⟨_, rfl, ?_⟩
                        refine jx_rt (v := some (.int (i32 (nd2_96)))) rfl rfl rfl rfl rfl rfl ?_
                        have z136 := tz_f (tk2_97)
                        exact ⟨_, _, _, at2_93, fk2_94, op2_95, nd2_126, tk2_97, rfl, rfl, hW127, hF134, hP135, by omega, ((hF128.1 10 rfl).trans (e102)), ((hF128.1 16 rfl).trans (e103)), ((hF128.1 15 rfl).trans (e104)), (e130), ((hF128.1 11 rfl).trans (e106)), by omega, by omega, by omega, by omega, by omega, by omega, by first | exact Or.inl (⟨by omega, by omega, by omega⟩)⟩
                      · have _q : True := trivial
                        refine jx_ld (pc' := 172) (l' := jSto1 L66 3 (.int (i32 (r92)))) (st' := []) rfl rfl ?_
                        obtain ⟨L137, eL137⟩ : ∃ q, q = jSto1 L66 3 (.int (i32 (r92))) := ⟨_, rfl⟩
                        rw [← eL137]
                        have gL137_0 : jGet L137 0 = some (.ref 66) := eL137 ▸ jg_ne (by decide) gL66_0 rfl
                        have gL137_1 : jGet L137 1 = some (.int (i32 (pa))) := eL137 ▸ jg_ne (by decide) gL66_1 rfl
                        have gL137_2 : jGet L137 2 = some (.int (i32 (kp))) := eL137 ▸ jg_ne (by decide) gL66_2 rfl
                        have gL137_4 : jGet L137 4 = some (.int (i32 (G 12))) := eL137 ▸ jg_ne (by decide) gL66_4 rfl
                        have gL137_5 : jGet L137 5 = some (.int (i32 (r43))) := eL137 ▸ jg_ne (by decide) gL66_5 rfl
                        have gL137_3 : jGet L137 3 = some (.int (i32 (r92))) := eL137 ▸ jg_eq
                        refine jx_ld (pc' := 173) (l' := L137) (st' := [.ref 66]) rfl (jl_aloadn gL137_0) ?_
                        refine jx_ar (pc' := 175) (st' := [.int (i32 (7)), .ref 66]) rfl rfl rfl rfl ?_
                        refine jx_ld (pc' := 176) (l' := L137) (st' := [.int (i32 (r92)), .int (i32 (7)), .ref 66]) rfl (jl_iloadn gL137_3) ?_
                        refine jx_ld (pc' := 177) (l' := L137) (st' := [.int (i32 (pa)), .int (i32 (r92)), .int (i32 (7)), .ref 66]) rfl (jl_iloadn gL137_1) ?_
                        refine jx_ar (pc' := 178) (st' := [.int (i32 (0)), .int (i32 (pa)), .int (i32 (r92)), .int (i32 (7)), .ref 66]) rfl rfl rfl rfl ?_
                        refine jx_ar (pc' := 179) (st' := [.int (i32 (0)), .int (i32 (0)), .int (i32 (pa)), .int (i32 (r92)), .int (i32 (7)), .ref 66]) rfl rfl rfl rfl ?_
                        refine jx_vr (pc' := 182) (as := [.int (i32 (7)), .int (i32 (r92)), .int (i32 (pa)), .int (i32 (0)), .int (i32 (0))]) (st := []) rfl rfl rfl rfl ⟨rfl, rfl, Nat.le_of_ble_eq_true rfl⟩ rfl rfl (c_node (dd := d) (hd := by omega) (hW := hW98) (kind := 7) (a := r92) (b := pa) (c := 0) (e := 0) (nd := nd2_96) (e_nd := show G90 31 = nd2_96 from (e105))  (h_kind := ⟨(by decide), (by decide)⟩) (h_a := ⟨(Int.le_trans (by decide : (-2147483648 : Int) ≤ -2147483648) b101.1), (Int.le_trans b101.2 (by decide : (2147483647 : Int) ≤ 2147483647))⟩) (h_b := ⟨(Int.le_trans (by decide : (-2147483648 : Int) ≤ -2147483648) h_pa.1), (Int.le_trans h_pa.2 (by decide : (2147483647 : Int) ≤ 2147483647))⟩) (h_c := ⟨(by decide), (by decide)⟩) (h_e := ⟨(by decide), (by decide)⟩)  (p_0 := by omega) (p_1 := by omega)) (fun o V' hq => ?_)
                        obtain ⟨G138, A139, nd2_140, rfl, rfl, hW141, hF142, hQ143, e144, p145, p146, -⟩ := hq
                        have hF148 := Fr_tr hF114 hF142 (Fr_sub (by decide)) (Fr_sub (by decide))
                        have hP149 := Pf_tr hP115 hQ143 (by omega)
                        have sf150 : wR A139 Vs sb (20) (0) (r92) (nd) (nd2_96) := wR_ag (by omega) (Sg_fr hF142 (by decide)) (Ag_pf hQ143 (by omega)) a122
                        have bnd2_140 : (0 : Int) ≤ nd2_140 ∧ nd2_140 ≤ 6999 := e144 ▸ hW141.1 31
                        refine .inr ⟨_, rfl, ?_⟩
                        refine jx_rt (v := some (.int (i32 (nd2_96)))) rfl rfl rfl rfl rfl rfl ?_
                        have z151 := tz_f (tk2_97)
                        exact ⟨_, _, _, at2_93, fk2_94, op2_95, nd2_140, tk2_97, rfl, rfl, hW141, hF148, hP149, by omega, ((hF142.1 10 rfl).trans (e102)), ((hF142.1 16 rfl).trans (e103)), ((hF142.1 15 rfl).trans (e104)), (e144), ((hF142.1 11 rfl).trans (e106)), by omega, by omega, by omega, by omega, by omega, by omega, by first | exact Or.inr ((⟨by omega, by omega, by omega, by omega, by omega, (wA_mk p146 (by omega) (by omega) (by omega) (by omega) (.inr (.inl ⟨((show A139 7 (pa).toNat = kp from (congrFun ((hF142.2 7 rfl).trans ((hF99.2 7 rfl).trans ((hF79.2 7 rfl).trans (hF46.2 7 rfl)))) _).trans (e_kp)).trans (by omega : kp = 6)), (wR_mono (by omega) (by omega) (by omega) sf150)⟩))), (NX_nd p146)⟩))⟩
                    · have _q := h89
                      refine jx_ar (pc' := 164) (st' := [.int (i32 (1)), .int (i32 (G 12)), .int (i32 (r43)), .ref 66]) rfl rfl rfl rfl ?_
                      refine jx_go (tg := 168) rfl rfl ?_
                      refine jx_vr (pc' := 171) (as := [.int (i32 (r43)), .int (i32 (G 12)), .int (i32 (1))]) (st := []) rfl rfl rfl rfl ⟨rfl, rfl, Nat.le_of_ble_eq_true rfl⟩ rfl rfl (c_readBehind (dd := d) (hd := by omega) (hW := hW78) (s := r43) (place := G 12) (ch := 1) (ln := ln) (e_ln := show G74 9 = ln from ((hF79.1 9 rfl).trans ((hF46.1 9 rfl).trans (e_ln)))) (le := le) (e_le := show A75 4 (ln).toNat = le from (congrFun ((hF79.2 4 rfl).trans (hF46.2 4 rfl)) _).trans (e_le)) (at0 := at2_76) (e_at0 := show G74 10 = at2_76 from (e80)) (fk := fk2_44) (e_fk := show G74 16 = fk2_44 from ((hF79.1 16 rfl).trans (e48))) (op0 := op0) (e_op0 := show G74 15 = op0 from ((hF79.1 15 rfl).trans ((hF46.1 15 rfl).trans (e_op0)))) (nd := nd) (e_nd := show G74 31 = nd from ((hF79.1 31 rfl).trans ((hF46.1 31 rfl).trans (e_nd)))) (tk0 := tk2_77) (e_tk0 := show G74 11 = tk2_77 from (e81)) (i_SV := (SV_ext (((hF79.1 29 rfl).trans (hF46.1 29 rfl))) (((hF79.2 14 rfl).trans (hF46.2 14 rfl))) i_SV)) (h_s := ⟨(Int.le_trans (by decide : (-2147483648 : Int) ≤ -2147483648) b47.1), (Int.le_trans b47.2 (by decide : (2147483647 : Int) ≤ 2147483647))⟩) (h_place := ⟨(Int.le_trans (by decide : (-2147483648 : Int) ≤ -3000) b39.1), (Int.le_trans b39.2 (by decide : (3002 : Int) ≤ 2147483647))⟩) (h_ch := ⟨(by decide), (by decide)⟩)  (p_0 := by omega) (p_1 := by omega) (p_2 := by omega) (p_3 := by omega) (p_4 := by omega) (p_5 := by omega) (p_6 := by omega) (p_7 := by omega) (p_8 := by omega) (p_9 := a57)) (fun o V' hq => ?_)
                      obtain ⟨G152, A153, r154, at2_155, fk2_156, op2_157, nd2_158, tk2_159, rfl, rfl, hW160, hF161, hQ162, b163, e164, e165, e166, e167, e168, p169, p170, p171, p172, p173, p174, q175⟩ := hq
                      have hF176 := Fr_tr hF86 hF161 (Fr_sub (by decide)) (Fr_sub (by decide))
                      have hP177 := Pf_tr hP87 hQ162 (by omega)
                      have bat2_155 : (0 : Int) ≤ at2_155 ∧ at2_155 ≤ 3002 := e164 ▸ hW160.1 10
                      have bfk2_156 : (0 : Int) ≤ fk2_156 ∧ fk2_156 ≤ 6 := e165 ▸ hW160.1 16
                      have bop2_157 : (-2147483648 : Int) ≤ op2_157 ∧ op2_157 ≤ 2147483647 := e166 ▸ hW160.1 15
                      have bnd2_158 : (0 : Int) ≤ nd2_158 ∧ nd2_158 ≤ 6999 := e167 ▸ hW160.1 31
                      have ztk2_159 := tz_b tk2_159
                      have btk2_159 : (0 : Int) ≤ tk2_159 ∧ tk2_159 ≤ 5 := e168 ▸ hW160.1 11
                      refine .inr ⟨_, rfl, ?_⟩
                      rcases q175 with ⟨a178, a179, a180⟩ | ⟨a181, a182, a183, a184⟩
                      · have _q : True := trivial
                        refine jx_ld (pc' := 172) (l' := jSto1 L66 3 (.int (i32 (r154)))) (st' := []) rfl rfl ?_
                        obtain ⟨L185, eL185⟩ : ∃ q, q = jSto1 L66 3 (.int (i32 (r154))) := ⟨_, rfl⟩
                        rw [← eL185]
                        have gL185_0 : jGet L185 0 = some (.ref 66) := eL185 ▸ jg_ne (by decide) gL66_0 rfl
                        have gL185_1 : jGet L185 1 = some (.int (i32 (pa))) := eL185 ▸ jg_ne (by decide) gL66_1 rfl
                        have gL185_2 : jGet L185 2 = some (.int (i32 (kp))) := eL185 ▸ jg_ne (by decide) gL66_2 rfl
                        have gL185_4 : jGet L185 4 = some (.int (i32 (G 12))) := eL185 ▸ jg_ne (by decide) gL66_4 rfl
                        have gL185_5 : jGet L185 5 = some (.int (i32 (r43))) := eL185 ▸ jg_ne (by decide) gL66_5 rfl
                        have gL185_3 : jGet L185 3 = some (.int (i32 (r154))) := eL185 ▸ jg_eq
                        refine jx_ld (pc' := 173) (l' := L185) (st' := [.ref 66]) rfl (jl_aloadn gL185_0) ?_
                        refine jx_ar (pc' := 175) (st' := [.int (i32 (7)), .ref 66]) rfl rfl rfl rfl ?_
                        refine jx_ld (pc' := 176) (l' := L185) (st' := [.int (i32 (r154)), .int (i32 (7)), .ref 66]) rfl (jl_iloadn gL185_3) ?_
                        refine jx_ld (pc' := 177) (l' := L185) (st' := [.int (i32 (pa)), .int (i32 (r154)), .int (i32 (7)), .ref 66]) rfl (jl_iloadn gL185_1) ?_
                        refine jx_ar (pc' := 178) (st' := [.int (i32 (0)), .int (i32 (pa)), .int (i32 (r154)), .int (i32 (7)), .ref 66]) rfl rfl rfl rfl ?_
                        refine jx_ar (pc' := 179) (st' := [.int (i32 (0)), .int (i32 (0)), .int (i32 (pa)), .int (i32 (r154)), .int (i32 (7)), .ref 66]) rfl rfl rfl rfl ?_
                        refine jx_vr (pc' := 182) (as := [.int (i32 (7)), .int (i32 (r154)), .int (i32 (pa)), .int (i32 (0)), .int (i32 (0))]) (st := []) rfl rfl rfl rfl ⟨rfl, rfl, Nat.le_of_ble_eq_true rfl⟩ rfl rfl (c_node (dd := d) (hd := by omega) (hW := hW160) (kind := 7) (a := r154) (b := pa) (c := 0) (e := 0) (nd := nd2_158) (e_nd := show G152 31 = nd2_158 from (e167))  (h_kind := ⟨(by decide), (by decide)⟩) (h_a := ⟨(Int.le_trans (by decide : (-2147483648 : Int) ≤ -2147483648) b163.1), (Int.le_trans b163.2 (by decide : (2147483647 : Int) ≤ 2147483647))⟩) (h_b := ⟨(Int.le_trans (by decide : (-2147483648 : Int) ≤ -2147483648) h_pa.1), (Int.le_trans h_pa.2 (by decide : (2147483647 : Int) ≤ 2147483647))⟩) (h_c := ⟨(by decide), (by decide)⟩) (h_e := ⟨(by decide), (by decide)⟩)  (p_0 := by omega) (p_1 := by omega)) (fun o V' hq => ?_)
                        obtain ⟨G186, A187, nd2_188, rfl, rfl, hW189, hF190, hQ191, e192, p193, p194, -⟩ := hq
                        have hF196 := Fr_tr hF176 hF190 (Fr_sub (by decide)) (Fr_sub (by decide))
                        have hP197 := Pf_tr hP177 hQ191 (by omega)
                        have bnd2_188 : (0 : Int) ≤ nd2_188 ∧ nd2_188 ≤ 6999 := e192 ▸ hW189.1 31
                        refine .inr ⟨_, rfl, ?_⟩
                        refine jx_rt (v := some (.int (i32 (nd2_158)))) rfl rfl rfl rfl rfl rfl ?_
                        have z198 := tz_f (tk2_159)
                        exact ⟨_, _, _, at2_155, fk2_156, op2_157, nd2_188, tk2_159, rfl, rfl, hW189, hF196, hP197, by omega, ((hF190.1 10 rfl).trans (e164)), ((hF190.1 16 rfl).trans (e165)), ((hF190.1 15 rfl).trans (e166)), (e192), ((hF190.1 11 rfl).trans (e168)), by omega, by omega, by omega, by omega, by omega, by omega, by first | exact Or.inl (⟨by omega, by omega, by omega⟩)⟩
                      · have _q : True := trivial
                        refine jx_ld (pc' := 172) (l' := jSto1 L66 3 (.int (i32 (r154)))) (st' := []) rfl rfl ?_
                        obtain ⟨L199, eL199⟩ : ∃ q, q = jSto1 L66 3 (.int (i32 (r154))) := ⟨_, rfl⟩
                        rw [← eL199]
                        have gL199_0 : jGet L199 0 = some (.ref 66) := eL199 ▸ jg_ne (by decide) gL66_0 rfl
                        have gL199_1 : jGet L199 1 = some (.int (i32 (pa))) := eL199 ▸ jg_ne (by decide) gL66_1 rfl
                        have gL199_2 : jGet L199 2 = some (.int (i32 (kp))) := eL199 ▸ jg_ne (by decide) gL66_2 rfl
                        have gL199_4 : jGet L199 4 = some (.int (i32 (G 12))) := eL199 ▸ jg_ne (by decide) gL66_4 rfl
                        have gL199_5 : jGet L199 5 = some (.int (i32 (r43))) := eL199 ▸ jg_ne (by decide) gL66_5 rfl
                        have gL199_3 : jGet L199 3 = some (.int (i32 (r154))) := eL199 ▸ jg_eq
                        refine jx_ld (pc' := 173) (l' := L199) (st' := [.ref 66]) rfl (jl_aloadn gL199_0) ?_
                        refine jx_ar (pc' := 175) (st' := [.int (i32 (7)), .ref 66]) rfl rfl rfl rfl ?_
                        refine jx_ld (pc' := 176) (l' := L199) (st' := [.int (i32 (r154)), .int (i32 (7)), .ref 66]) rfl (jl_iloadn gL199_3) ?_
                        refine jx_ld (pc' := 177) (l' := L199) (st' := [.int (i32 (pa)), .int (i32 (r154)), .int (i32 (7)), .ref 66]) rfl (jl_iloadn gL199_1) ?_
                        refine jx_ar (pc' := 178) (st' := [.int (i32 (0)), .int (i32 (pa)), .int (i32 (r154)), .int (i32 (7)), .ref 66]) rfl rfl rfl rfl ?_
                        refine jx_ar (pc' := 179) (st' := [.int (i32 (0)), .int (i32 (0)), .int (i32 (pa)), .int (i32 (r154)), .int (i32 (7)), .ref 66]) rfl rfl rfl rfl ?_
                        refine jx_vr (pc' := 182) (as := [.int (i32 (7)), .int (i32 (r154)), .int (i32 (pa)), .int (i32 (0)), .int (i32 (0))]) (st := []) rfl rfl rfl rfl ⟨rfl, rfl, Nat.le_of_ble_eq_true rfl⟩ rfl rfl (c_node (dd := d) (hd := by omega) (hW := hW160) (kind := 7) (a := r154) (b := pa) (c := 0) (e := 0) (nd := nd2_158) (e_nd := show G152 31 = nd2_158 from (e167))  (h_kind := ⟨(by decide), (by decide)⟩) (h_a := ⟨(Int.le_trans (by decide : (-2147483648 : Int) ≤ -2147483648) b163.1), (Int.le_trans b163.2 (by decide : (2147483647 : Int) ≤ 2147483647))⟩) (h_b := ⟨(Int.le_trans (by decide : (-2147483648 : Int) ≤ -2147483648) h_pa.1), (Int.le_trans h_pa.2 (by decide : (2147483647 : Int) ≤ 2147483647))⟩) (h_c := ⟨(by decide), (by decide)⟩) (h_e := ⟨(by decide), (by decide)⟩)  (p_0 := by omega) (p_1 := by omega)) (fun o V' hq => ?_)
                        obtain ⟨G200, A201, nd2_202, rfl, rfl, hW203, hF204, hQ205, e206, p207, p208, -⟩ := hq
                        have hF210 := Fr_tr hF176 hF204 (Fr_sub (by decide)) (Fr_sub (by decide))
                        have hP211 := Pf_tr hP177 hQ205 (by omega)
                        have sf212 : wR A201 Vs sb (20) (1) (r154) (nd) (nd2_158) := wR_ag (by omega) (Sg_fr hF204 (by decide)) (Ag_pf hQ205 (by omega)) a184
                        have bnd2_202 : (0 : Int) ≤ nd2_202 ∧ nd2_202 ≤ 6999 := e206 ▸ hW203.1 31
                        refine .inr ⟨_, rfl, ?_⟩
                        refine jx_rt (v := some (.int (i32 (nd2_158)))) rfl rfl rfl rfl rfl rfl ?_
                        have z213 := tz_f (tk2_159)
                        exact ⟨_, _, _, at2_155, fk2_156, op2_157, nd2_202, tk2_159, rfl, rfl, hW203, hF210, hP211, by omega, ((hF204.1 10 rfl).trans (e164)), ((hF204.1 16 rfl).trans (e165)), ((hF204.1 15 rfl).trans (e166)), (e206), ((hF204.1 11 rfl).trans (e168)), by omega, by omega, by omega, by omega, by omega, by omega, by first | exact Or.inr ((⟨by omega, by omega, by omega, by omega, by omega, (wA_mk p208 (by omega) (by omega) (by omega) (by omega) (.inr (.inr (.inl ⟨((show A201 7 (pa).toNat = kp from (congrFun ((hF204.2 7 rfl).trans ((hF161.2 7 rfl).trans ((hF79.2 7 rfl).trans (hF46.2 7 rfl)))) _).trans (e_kp)).trans (by omega : kp = 8)), (wR_mono (by omega) (by omega) (by omega) sf212)⟩)))), (NX_nd p208)⟩))⟩
                  · have _q := h88
                    refine jx_ld (pc' := 139) (l' := L66) (st' := [.ref 66]) rfl (jl_aloadn gL66_0) ?_
                    refine jx_ar (pc' := 140) (st' := [.int (i32 (2)), .ref 66]) rfl rfl rfl rfl ?_
                    refine jx_ld (pc' := 142) (l' := L66) (st' := [.int (i32 (r43)), .int (i32 (2)), .ref 66]) rfl (jl_iload gL66_5) ?_
                    refine jx_ar (pc' := 143) (st' := [.int (i32 (0)), .int (i32 (r43)), .int (i32 (2)), .ref 66]) rfl rfl rfl rfl ?_
                    refine jx_ar (pc' := 144) (st' := [.int (i32 (0)), .int (i32 (0)), .int (i32 (r43)), .int (i32 (2)), .ref 66]) rfl rfl rfl rfl ?_
                    refine jx_ar (pc' := 145) (st' := [.int (i32 (0)), .int (i32 (0)), .int (i32 (0)), .int (i32 (r43)), .int (i32 (2)), .ref 66]) rfl rfl rfl rfl ?_
                    refine jx_vr (pc' := 148) (as := [.int (i32 (2)), .int (i32 (r43)), .int (i32 (0)), .int (i32 (0)), .int (i32 (0))]) (st := []) rfl rfl rfl rfl ⟨rfl, rfl, Nat.le_of_ble_eq_true rfl⟩ rfl rfl (c_node (dd := d) (hd := by omega) (hW := hW78) (kind := 2) (a := r43) (b := 0) (c := 0) (e := 0) (nd := nd) (e_nd := show G74 31 = nd from ((hF79.1 31 rfl).trans ((hF46.1 31 rfl).trans (e_nd))))  (h_kind := ⟨(by decide), (by decide)⟩) (h_a := ⟨(Int.le_trans (by decide : (-2147483648 : Int) ≤ -2147483648) b47.1), (Int.le_trans b47.2 (by decide : (2147483647 : Int) ≤ 2147483647))⟩) (h_b := ⟨(by decide), (by decide)⟩) (h_c := ⟨(by decide), (by decide)⟩) (h_e := ⟨(by decide), (by decide)⟩)  (p_0 := by omega) (p_1 := by omega)) (fun o V' hq => ?_)
                    obtain ⟨G214, A215, nd2_216, rfl, rfl, hW217, hF218, hQ219, e220, p221, p222, -⟩ := hq
                    have hF224 := Fr_tr hF86 hF218 (Fr_sub (by decide)) (Fr_sub (by decide))
                    have hP225 := Pf_tr hP87 hQ219 (by omega)
                    have bnd2_216 : (0 : Int) ≤ nd2_216 ∧ nd2_216 ≤ 6999 := e220 ▸ hW217.1 31
                    refine .inr ⟨_, rfl, ?_⟩
                    refine jx_ld (pc' := 149) (l' := jSto1 L66 3 (.int (i32 (nd)))) (st' := []) rfl rfl ?_
                    obtain ⟨L226, eL226⟩ : ∃ q, q = jSto1 L66 3 (.int (i32 (nd))) := ⟨_, rfl⟩
                    rw [← eL226]
                    have gL226_0 : jGet L226 0 = some (.ref 66) := eL226 ▸ jg_ne (by decide) gL66_0 rfl
                    have gL226_1 : jGet L226 1 = some (.int (i32 (pa))) := eL226 ▸ jg_ne (by decide) gL66_1 rfl
                    have gL226_2 : jGet L226 2 = some (.int (i32 (kp))) := eL226 ▸ jg_ne (by decide) gL66_2 rfl
                    have gL226_4 : jGet L226 4 = some (.int (i32 (G 12))) := eL226 ▸ jg_ne (by decide) gL66_4 rfl
                    have gL226_5 : jGet L226 5 = some (.int (i32 (r43))) := eL226 ▸ jg_ne (by decide) gL66_5 rfl
                    have gL226_3 : jGet L226 3 = some (.int (i32 (nd))) := eL226 ▸ jg_eq
                    refine jx_go (tg := 172) rfl rfl ?_
                    refine jx_ld (pc' := 173) (l' := L226) (st' := [.ref 66]) rfl (jl_aloadn gL226_0) ?_
                    refine jx_ar (pc' := 175) (st' := [.int (i32 (7)), .ref 66]) rfl rfl rfl rfl ?_
                    refine jx_ld (pc' := 176) (l' := L226) (st' := [.int (i32 (nd)), .int (i32 (7)), .ref 66]) rfl (jl_iloadn gL226_3) ?_
                    refine jx_ld (pc' := 177) (l' := L226) (st' := [.int (i32 (pa)), .int (i32 (nd)), .int (i32 (7)), .ref 66]) rfl (jl_iloadn gL226_1) ?_
                    refine jx_ar (pc' := 178) (st' := [.int (i32 (0)), .int (i32 (pa)), .int (i32 (nd)), .int (i32 (7)), .ref 66]) rfl rfl rfl rfl ?_
                    refine jx_ar (pc' := 179) (st' := [.int (i32 (0)), .int (i32 (0)), .int (i32 (pa)), .int (i32 (nd)), .int (i32 (7)), .ref 66]) rfl rfl rfl rfl ?_
                    refine jx_vr (pc' := 182) (as := [.int (i32 (7)), .int (i32 (nd)), .int (i32 (pa)), .int (i32 (0)), .int (i32 (0))]) (st := []) rfl rfl rfl rfl ⟨rfl, rfl, Nat.le_of_ble_eq_true rfl⟩ rfl rfl (c_node (dd := d) (hd := by omega) (hW := hW217) (kind := 7) (a := nd) (b := pa) (c := 0) (e := 0) (nd := nd2_216) (e_nd := show G214 31 = nd2_216 from (e220))  (h_kind := ⟨(by decide), (by decide)⟩) (h_a := ⟨(Int.le_trans (by decide : (-2147483648 : Int) ≤ 0) b_nd.1), (Int.le_trans b_nd.2 (by decide : (6999 : Int) ≤ 2147483647))⟩) (h_b := ⟨(Int.le_trans (by decide : (-2147483648 : Int) ≤ -2147483648) h_pa.1), (Int.le_trans h_pa.2 (by decide : (2147483647 : Int) ≤ 2147483647))⟩) (h_c := ⟨(by decide), (by decide)⟩) (h_e := ⟨(by decide), (by decide)⟩)  (p_0 := by omega) (p_1 := by omega)) (fun o V' hq => ?_)
                    obtain ⟨G227, A228, nd2_229, rfl, rfl, hW230, hF231, hQ232, e233, p234, p235, -⟩ := hq
                    have hF237 := Fr_tr hF224 hF231 (Fr_sub (by decide)) (Fr_sub (by decide))
                    have hP238 := Pf_tr hP225 hQ232 (by omega)
                    have sf239 : ND A228 (nd) (2) (r43) (0) (0) (0) (0) (0) := ND_ag (by omega) (Ag_pf hQ232 (by omega)) p222
                    have bnd2_229 : (0 : Int) ≤ nd2_229 ∧ nd2_229 ≤ 6999 := e233 ▸ hW230.1 31
                    refine .inr ⟨_, rfl, ?_⟩
                    refine jx_rt (v := some (.int (i32 (nd2_216)))) rfl rfl rfl rfl rfl rfl ?_
                    have z240 := tz_f (tk2_77)
                    exact ⟨_, _, _, at2_76, fk2_44, op0, nd2_229, tk2_77, rfl, rfl, hW230, hF237, hP238, by omega, ((hF231.1 10 rfl).trans ((hF218.1 10 rfl).trans (e80))), ((hF231.1 16 rfl).trans ((hF218.1 16 rfl).trans ((hF79.1 16 rfl).trans (e48)))), ((hF231.1 15 rfl).trans ((hF218.1 15 rfl).trans ((hF79.1 15 rfl).trans ((hF46.1 15 rfl).trans (e_op0))))), (e233), ((hF231.1 11 rfl).trans ((hF218.1 11 rfl).trans (e81))), by omega, by omega, by omega, by omega, by omega, by omega, by first | exact Or.inr ((⟨by omega, by omega, by omega, by omega, by omega, (wA_mk p235 (by omega) (by omega) (by omega) (by omega) (.inr (.inr (.inr ⟨((show A228 7 (pa).toNat = kp from (congrFun ((hF231.2 7 rfl).trans ((hF218.2 7 rfl).trans ((hF79.2 7 rfl).trans (hF46.2 7 rfl)))) _).trans (e_kp)).trans (by omega : kp = 7)), wW_mk sf239 (by omega) (by omega) a57 (kq (P := kArr) (show A228 7 (r43).toNat = A 7 (r43).toNat from (congrFun ((hF231.2 7 rfl).trans ((hF218.2 7 rfl).trans ((hF79.2 7 rfl).trans (hF46.2 7 rfl)))) _)) (by unfold kArr; omega)) ((show A228 8 (r43).toNat = A 8 (r43).toNat from (congrFun ((hF231.2 8 rfl).trans ((hF218.2 8 rfl).trans ((hF79.2 8 rfl).trans (hF46.2 8 rfl)))) _)).trans ((by omega : A 8 (r43).toNat = zp).trans (show A228 8 (pa).toNat = zp from (congrFun ((hF231.2 8 rfl).trans ((hF218.2 8 rfl).trans ((hF79.2 8 rfl).trans (hF46.2 8 rfl)))) _).trans (e_zp)).symm))⟩)))), (NX_nd p235)⟩))⟩
                · have _q := h73
                  refine jx_ld (pc' := 91) (l' := L66) (st' := [.ref 66]) rfl (jl_aloadn gL66_0) ?_
                  refine jr_get (pc' := 94) (i := 21) (v := .ref 74) rfl rfl (by decide) rfl rfl ?_
                  refine jx_ld (pc' := 96) (l' := L66) (st' := [.int (i32 (r43)), .ref 74]) rfl (jl_iload gL66_5) ?_
                  have b241 : (0 : Int) ≤ A 7 (r43).toNat ∧ A 7 (r43).toNat ≤ 14 := hW.2 7 _
                  refine jr_ldv (pc' := 97) (i := 7) (m := 260) (z := r43) (y := A 7 (r43).toNat) rfl (by decide) rfl (by decide) (by omega) (by omega) rfl (show A42 7 (r43).toNat = A 7 (r43).toNat from (congrFun (hF46.2 7 rfl) _)) ?_
                  refine jx_st (pc' := 100) (as := [.int (i32 (A 7 (r43).toNat))]) (st := []) rfl rfl ⟨rfl, Nat.le_of_ble_eq_true rfl⟩ rfl rfl rfl (c_isArray (dd := d) (hd := by omega) (k := A 7 (r43).toNat)   (h_k := ⟨(Int.le_trans (by decide : (-2147483648 : Int) ≤ 0) b241.1), (Int.le_trans b241.2 (by decide : (14 : Int) ≤ 2147483647))⟩)  ) (fun o V' hq => ?_)
                  obtain ⟨r242, rfl, rfl, b243, q244⟩ := hq
                  refine .inr ⟨_, rfl, ?_⟩
                  rcases q244 with ⟨rfl, a245⟩ | rfl
                  · have _q : True := trivial
                    refine jx_if_eq (pc' := 103) (tg := 119) rfl rfl rfl (by decide) (by decide) (fun h246 => ?_) (fun h246 => ?_)
                    · have _q := h246
                      exact absurd h246 (by omega)
                    · have _q := h246
                      refine jx_ld (pc' := 104) (l' := L66) (st' := [.ref 66]) rfl (jl_aloadn gL66_0) ?_
                      refine jr_get (pc' := 107) (i := 22) (v := .ref 75) rfl rfl (by decide) rfl rfl ?_
                      refine jx_ld (pc' := 109) (l' := L66) (st' := [.int (i32 (r43)), .ref 75]) rfl (jl_iload gL66_5) ?_
                      have b247 : (-2147483648 : Int) ≤ A 8 (r43).toNat ∧ A 8 (r43).toNat ≤ 2147483647 := hW.2 8 _
                      refine jr_ldv (pc' := 110) (i := 8) (m := 260) (z := r43) (y := A 8 (r43).toNat) rfl (by decide) rfl (by decide) (by omega) (by omega) rfl (show A42 8 (r43).toNat = A 8 (r43).toNat from (congrFun (hF46.2 8 rfl) _)) ?_
                      refine jx_ld (pc' := 111) (l' := L66) (st' := [.ref 66, .int (i32 (A 8 (r43).toNat))]) rfl (jl_aloadn gL66_0) ?_
                      refine jr_get (pc' := 114) (i := 22) (v := .ref 75) rfl rfl (by decide) rfl rfl ?_
                      refine jx_ld (pc' := 115) (l' := L66) (st' := [.int (i32 (pa)), .ref 75, .int (i32 (A 8 (r43).toNat))]) rfl (jl_iloadn gL66_1) ?_
                      refine jr_ldv (pc' := 116) (i := 8) (m := 260) (z := pa) (y := zp) rfl (by decide) rfl (by decide) (by omega) (by omega) rfl (show A42 8 (pa).toNat = zp from (congrFun (hF46.2 8 rfl) _).trans (e_zp)) ?_
                      refine jx_icmp_eq (pc' := 119) (tg := 128) rfl rfl rfl (Int.le_trans (by decide : (-2147483648 : Int) ≤ -2147483648) b247.1) (Int.le_trans b247.2 (by decide : (2147483647 : Int) ≤ 2147483647)) (Int.le_trans (by decide : (-2147483648 : Int) ≤ -2147483648) b_zp.1) (Int.le_trans b_zp.2 (by decide : (2147483647 : Int) ≤ 2147483647)) (fun h248 => ?_) (fun h248 => ?_)
                      · have _q := h248
                        refine jx_ld (pc' := 129) (l' := L66) (st' := [.ref 66]) rfl (jl_aloadn gL66_0) ?_
                        refine jx_vr (pc' := 132) (as := []) (st := []) rfl rfl rfl rfl ⟨rfl, rfl, Nat.le_of_ble_eq_true rfl⟩ rfl rfl (c_next (dd := d) (hd := by omega) (hW := hW45)  (ln := ln) (e_ln := show G41 9 = ln from ((hF46.1 9 rfl).trans (e_ln))) (le := le) (e_le := show A42 4 (ln).toNat = le from (congrFun (hF46.2 4 rfl) _).trans (e_le)) (at0 := at0) (e_at0 := show G41 10 = at0 from ((hF46.1 10 rfl).trans (e_at0)))    (p_0 := by omega)) (fun o V' hq => ?_)
                        obtain ⟨G249, A250, at2_251, tk2_252, rfl, rfl, hW253, hF254, e255, e256, p257, p258, p259, -⟩ := hq
                        have hF261 := Fr_tr hF50 hF254 (Fr_sub (by decide)) (Fr_sub (by decide))
                        have hP262 := Pf_f hP51 hF254 (by decide)
                        have bat2_251 : (0 : Int) ≤ at2_251 ∧ at2_251 ≤ 3002 := e255 ▸ hW253.1 10
                        have ztk2_252 := tz_b tk2_252
                        have btk2_252 : (0 : Int) ≤ tk2_252 ∧ tk2_252 ≤ 5 := e256 ▸ hW253.1 11
                        refine .inl ⟨rfl, ?_⟩
                        refine jx_ld (pc' := 133) (l' := L66) (st' := [.int (i32 (kp))]) rfl (jl_iloadn gL66_2) ?_
                        refine jx_ar (pc' := 135) (st' := [.int (i32 (7)), .int (i32 (kp))]) rfl rfl rfl rfl ?_
                        refine jx_icmp_ne (pc' := 138) (tg := 152) rfl rfl rfl (Int.le_trans (by decide : (-2147483648 : Int) ≤ 0) b_kp.1) (Int.le_trans b_kp.2 (by decide : (14 : Int) ≤ 2147483647)) (by decide) (by decide) (fun h263 => ?_) (fun h263 => ?_)
                        · have _q := h263
                          refine jx_ld (pc' := 153) (l' := L66) (st' := [.ref 66]) rfl (jl_aloadn gL66_0) ?_
                          refine jx_ld (pc' := 155) (l' := L66) (st' := [.int (i32 (r43)), .ref 66]) rfl (jl_iload gL66_5) ?_
                          refine jx_ld (pc' := 157) (l' := L66) (st' := [.int (i32 (G 12)), .int (i32 (r43)), .ref 66]) rfl (jl_iload gL66_4) ?_
                          refine jx_ld (pc' := 158) (l' := L66) (st' := [.int (i32 (kp)), .int (i32 (G 12)), .int (i32 (r43)), .ref 66]) rfl (jl_iloadn gL66_2) ?_
                          refine jx_ar (pc' := 160) (st' := [.int (i32 (8)), .int (i32 (kp)), .int (i32 (G 12)), .int (i32 (r43)), .ref 66]) rfl rfl rfl rfl ?_
                          refine jx_icmp_ne (pc' := 163) (tg := 167) rfl rfl rfl (Int.le_trans (by decide : (-2147483648 : Int) ≤ 0) b_kp.1) (Int.le_trans b_kp.2 (by decide : (14 : Int) ≤ 2147483647)) (by decide) (by decide) (fun h264 => ?_) (fun h264 => ?_)
                          · have _q := h264
                            refine jx_ar (pc' := 168) (st' := [.int (i32 (0)), .int (i32 (G 12)), .int (i32 (r43)), .ref 66]) rfl rfl rfl rfl ?_
                            refine jx_vr (pc' := 171) (as := [.int (i32 (r43)), .int (i32 (G 12)), .int (i32 (0))]) (st := []) rfl rfl rfl rfl ⟨rfl, rfl, Nat.le_of_ble_eq_true rfl⟩ rfl rfl (c_readBehind (dd := d) (hd := by omega) (hW := hW253) (s := r43) (place := G 12) (ch := 0) (ln := ln) (e_ln := show G249 9 = ln from ((hF254.1 9 rfl).trans ((hF46.1 9 rfl).trans (e_ln)))) (le := le) (e_le := show A250 4 (ln).toNat = le from (congrFun ((hF254.2 4 rfl).trans (hF46.2 4 rfl)) _).trans (e_le)) (at0 := at2_251) (e_at0 := show G249 10 = at2_251 from (e255)) (fk := fk2_44) (e_fk := show G249 16 = fk2_44 from ((hF254.1 16 rfl).trans (e48))) (op0 := op0) (e_op0 := show G249 15 = op0 from ((hF254.1 15 rfl).trans ((hF46.1 15 rfl).trans (e_op0)))) (nd := nd) (e_nd := show G249 31 = nd from ((hF254.1 31 rfl).trans ((hF46.1 31 rfl).trans (e_nd)))) (tk0 := tk2_252) (e_tk0 := show G249 11 = tk2_252 from (e256)) (i_SV := (SV_ext (((hF254.1 29 rfl).trans (hF46.1 29 rfl))) (((hF254.2 14 rfl).trans (hF46.2 14 rfl))) i_SV)) (h_s := ⟨(Int.le_trans (by decide : (-2147483648 : Int) ≤ -2147483648) b47.1), (Int.le_trans b47.2 (by decide : (2147483647 : Int) ≤ 2147483647))⟩) (h_place := ⟨(Int.le_trans (by decide : (-2147483648 : Int) ≤ -3000) b39.1), (Int.le_trans b39.2 (by decide : (3002 : Int) ≤ 2147483647))⟩) (h_ch := ⟨(by decide), (by decide)⟩)  (p_0 := by omega) (p_1 := by omega) (p_2 := by omega) (p_3 := by omega) (p_4 := by omega) (p_5 := by omega) (p_6 := by omega) (p_7 := by omega) (p_8 := by omega) (p_9 := a57)) (fun o V' hq => ?_)
                            obtain ⟨G265, A266, r267, at2_268, fk2_269, op2_270, nd2_271, tk2_272, rfl, rfl, hW273, hF274, hQ275, b276, e277, e278, e279, e280, e281, p282, p283, p284, p285, p286, p287, q288⟩ := hq
                            have hF289 := Fr_tr hF261 hF274 (Fr_sub (by decide)) (Fr_sub (by decide))
                            have hP290 := Pf_tr hP262 hQ275 (by omega)
                            have bat2_268 : (0 : Int) ≤ at2_268 ∧ at2_268 ≤ 3002 := e277 ▸ hW273.1 10
                            have bfk2_269 : (0 : Int) ≤ fk2_269 ∧ fk2_269 ≤ 6 := e278 ▸ hW273.1 16
                            have bop2_270 : (-2147483648 : Int) ≤ op2_270 ∧ op2_270 ≤ 2147483647 := e279 ▸ hW273.1 15
                            have bnd2_271 : (0 : Int) ≤ nd2_271 ∧ nd2_271 ≤ 6999 := e280 ▸ hW273.1 31
                            have ztk2_272 := tz_b tk2_272
                            have btk2_272 : (0 : Int) ≤ tk2_272 ∧ tk2_272 ≤ 5 := e281 ▸ hW273.1 11
                            refine .inr ⟨_, rfl, ?_⟩
                            rcases q288 with ⟨a291, a292, a293⟩ | ⟨a294, a295, a296, a297⟩
                            · have _q : True := trivial
                              refine jx_ld (pc' := 172) (l' := jSto1 L66 3 (.int (i32 (r267)))) (st' := []) rfl rfl ?_
                              obtain ⟨L298, eL298⟩ : ∃ q, q = jSto1 L66 3 (.int (i32 (r267))) := ⟨_, rfl⟩
                              rw [← eL298]
                              have gL298_0 : jGet L298 0 = some (.ref 66) := eL298 ▸ jg_ne (by decide) gL66_0 rfl
                              have gL298_1 : jGet L298 1 = some (.int (i32 (pa))) := eL298 ▸ jg_ne (by decide) gL66_1 rfl
                              have gL298_2 : jGet L298 2 = some (.int (i32 (kp))) := eL298 ▸ jg_ne (by decide) gL66_2 rfl
                              have gL298_4 : jGet L298 4 = some (.int (i32 (G 12))) := eL298 ▸ jg_ne (by decide) gL66_4 rfl
                              have gL298_5 : jGet L298 5 = some (.int (i32 (r43))) := eL298 ▸ jg_ne (by decide) gL66_5 rfl
                              have gL298_3 : jGet L298 3 = some (.int (i32 (r267))) := eL298 ▸ jg_eq
                              refine jx_ld (pc' := 173) (l' := L298) (st' := [.ref 66]) rfl (jl_aloadn gL298_0) ?_
                              refine jx_ar (pc' := 175) (st' := [.int (i32 (7)), .ref 66]) rfl rfl rfl rfl ?_
                              refine jx_ld (pc' := 176) (l' := L298) (st' := [.int (i32 (r267)), .int (i32 (7)), .ref 66]) rfl (jl_iloadn gL298_3) ?_
                              refine jx_ld (pc' := 177) (l' := L298) (st' := [.int (i32 (pa)), .int (i32 (r267)), .int (i32 (7)), .ref 66]) rfl (jl_iloadn gL298_1) ?_
                              refine jx_ar (pc' := 178) (st' := [.int (i32 (0)), .int (i32 (pa)), .int (i32 (r267)), .int (i32 (7)), .ref 66]) rfl rfl rfl rfl ?_
                              refine jx_ar (pc' := 179) (st' := [.int (i32 (0)), .int (i32 (0)), .int (i32 (pa)), .int (i32 (r267)), .int (i32 (7)), .ref 66]) rfl rfl rfl rfl ?_
                              refine jx_vr (pc' := 182) (as := [.int (i32 (7)), .int (i32 (r267)), .int (i32 (pa)), .int (i32 (0)), .int (i32 (0))]) (st := []) rfl rfl rfl rfl ⟨rfl, rfl, Nat.le_of_ble_eq_true rfl⟩ rfl rfl (c_node (dd := d) (hd := by omega) (hW := hW273) (kind := 7) (a := r267) (b := pa) (c := 0) (e := 0) (nd := nd2_271) (e_nd := show G265 31 = nd2_271 from (e280))  (h_kind := ⟨(by decide), (by decide)⟩) (h_a := ⟨(Int.le_trans (by decide : (-2147483648 : Int) ≤ -2147483648) b276.1), (Int.le_trans b276.2 (by decide : (2147483647 : Int) ≤ 2147483647))⟩) (h_b := ⟨(Int.le_trans (by decide : (-2147483648 : Int) ≤ -2147483648) h_pa.1), (Int.le_trans h_pa.2 (by decide : (2147483647 : Int) ≤ 2147483647))⟩) (h_c := ⟨(by decide), (by decide)⟩) (h_e := ⟨(by decide), (by decide)⟩)  (p_0 := by omega) (p_1 := by omega)) (fun o V' hq => ?_)
                              obtain ⟨G299, A300, nd2_301, rfl, rfl, hW302, hF303, hQ304, e305, p306, p307, -⟩ := hq
                              have hF309 := Fr_tr hF289 hF303 (Fr_sub (by decide)) (Fr_sub (by decide))
                              have hP310 := Pf_tr hP290 hQ304 (by omega)
                              have bnd2_301 : (0 : Int) ≤ nd2_301 ∧ nd2_301 ≤ 6999 := e305 ▸ hW302.1 31
                              refine .inr ⟨_, rfl, ?_⟩
                              refine jx_rt (v := some (.int (i32 (nd2_271)))) rfl rfl rfl rfl rfl rfl ?_
                              have z311 := tz_f (tk2_272)
                              exact ⟨_, _, _, at2_268, fk2_269, op2_270, nd2_301, tk2_272, rfl, rfl, hW302, hF309, hP310, by omega, ((hF303.1 10 rfl).trans (e277)), ((hF303.1 16 rfl).trans (e278)), ((hF303.1 15 rfl).trans (e279)), (e305), ((hF303.1 11 rfl).trans (e281)), by omega, by omega, by omega, by omega, by omega, by omega, by first | exact Or.inl (⟨by omega, by omega, by omega⟩)⟩
                            · have _q : True := trivial
                              refine jx_ld (pc' := 172) (l' := jSto1 L66 3 (.int (i32 (r267)))) (st' := []) rfl rfl ?_
                              obtain ⟨L312, eL312⟩ : ∃ q, q = jSto1 L66 3 (.int (i32 (r267))) := ⟨_, rfl⟩
                              rw [← eL312]
                              have gL312_0 : jGet L312 0 = some (.ref 66) := eL312 ▸ jg_ne (by decide) gL66_0 rfl
                              have gL312_1 : jGet L312 1 = some (.int (i32 (pa))) := eL312 ▸ jg_ne (by decide) gL66_1 rfl
                              have gL312_2 : jGet L312 2 = some (.int (i32 (kp))) := eL312 ▸ jg_ne (by decide) gL66_2 rfl
                              have gL312_4 : jGet L312 4 = some (.int (i32 (G 12))) := eL312 ▸ jg_ne (by decide) gL66_4 rfl
                              have gL312_5 : jGet L312 5 = some (.int (i32 (r43))) := eL312 ▸ jg_ne (by decide) gL66_5 rfl
                              have gL312_3 : jGet L312 3 = some (.int (i32 (r267))) := eL312 ▸ jg_eq
                              refine jx_ld (pc' := 173) (l' := L312) (st' := [.ref 66]) rfl (jl_aloadn gL312_0) ?_
                              refine jx_ar (pc' := 175) (st' := [.int (i32 (7)), .ref 66]) rfl rfl rfl rfl ?_
                              refine jx_ld (pc' := 176) (l' := L312) (st' := [.int (i32 (r267)), .int (i32 (7)), .ref 66]) rfl (jl_iloadn gL312_3) ?_
                              refine jx_ld (pc' := 177) (l' := L312) (st' := [.int (i32 (pa)), .int (i32 (r267)), .int (i32 (7)), .ref 66]) rfl (jl_iloadn gL312_1) ?_
                              refine jx_ar (pc' := 178) (st' := [.int (i32 (0)), .int (i32 (pa)), .int (i32 (r267)), .int (i32 (7)), .ref 66]) rfl rfl rfl rfl ?_
                              refine jx_ar (pc' := 179) (st' := [.int (i32 (0)), .int (i32 (0)), .int (i32 (pa)), .int (i32 (r267)), .int (i32 (7)), .ref 66]) rfl rfl rfl rfl ?_
                              refine jx_vr (pc' := 182) (as := [.int (i32 (7)), .int (i32 (r267)), .int (i32 (pa)), .int (i32 (0)), .int (i32 (0))]) (st := []) rfl rfl rfl rfl ⟨rfl, rfl, Nat.le_of_ble_eq_true rfl⟩ rfl rfl (c_node (dd := d) (hd := by omega) (hW := hW273) (kind := 7) (a := r267) (b := pa) (c := 0) (e := 0) (nd := nd2_271) (e_nd := show G265 31 = nd2_271 from (e280))  (h_kind := ⟨(by decide), (by decide)⟩) (h_a := ⟨(Int.le_trans (by decide : (-2147483648 : Int) ≤ -2147483648) b276.1), (Int.le_trans b276.2 (by decide : (2147483647 : Int) ≤ 2147483647))⟩) (h_b := ⟨(Int.le_trans (by decide : (-2147483648 : Int) ≤ -2147483648) h_pa.1), (Int.le_trans h_pa.2 (by decide : (2147483647 : Int) ≤ 2147483647))⟩) (h_c := ⟨(by decide), (by decide)⟩) (h_e := ⟨(by decide), (by decide)⟩)  (p_0 := by omega) (p_1 := by omega)) (fun o V' hq => ?_)
                              obtain ⟨G313, A314, nd2_315, rfl, rfl, hW316, hF317, hQ318, e319, p320, p321, -⟩ := hq
                              have hF323 := Fr_tr hF289 hF317 (Fr_sub (by decide)) (Fr_sub (by decide))
                              have hP324 := Pf_tr hP290 hQ318 (by omega)
                              have sf325 : wR A314 Vs sb (20) (0) (r267) (nd) (nd2_271) := wR_ag (by omega) (Sg_fr hF317 (by decide)) (Ag_pf hQ318 (by omega)) a297
                              have bnd2_315 : (0 : Int) ≤ nd2_315 ∧ nd2_315 ≤ 6999 := e319 ▸ hW316.1 31
                              refine .inr ⟨_, rfl, ?_⟩
                              refine jx_rt (v := some (.int (i32 (nd2_271)))) rfl rfl rfl rfl rfl rfl ?_
                              have z326 := tz_f (tk2_272)
                              exact ⟨_, _, _, at2_268, fk2_269, op2_270, nd2_315, tk2_272, rfl, rfl, hW316, hF323, hP324, by omega, ((hF317.1 10 rfl).trans (e277)), ((hF317.1 16 rfl).trans (e278)), ((hF317.1 15 rfl).trans (e279)), (e319), ((hF317.1 11 rfl).trans (e281)), by omega, by omega, by omega, by omega, by omega, by omega, by first | exact Or.inr ((⟨by omega, by omega, by omega, by omega, by omega, (wA_mk p321 (by omega) (by omega) (by omega) (by omega) (.inr (.inl ⟨((show A314 7 (pa).toNat = kp from (congrFun ((hF317.2 7 rfl).trans ((hF274.2 7 rfl).trans ((hF254.2 7 rfl).trans (hF46.2 7 rfl)))) _).trans (e_kp)).trans (by omega : kp = 6)), (wR_mono (by omega) (by omega) (by omega) sf325)⟩))), (NX_nd p321)⟩))⟩
                          · have _q := h264
                            refine jx_ar (pc' := 164) (st' := [.int (i32 (1)), .int (i32 (G 12)), .int (i32 (r43)), .ref 66]) rfl rfl rfl rfl ?_
                            refine jx_go (tg := 168) rfl rfl ?_
                            refine jx_vr (pc' := 171) (as := [.int (i32 (r43)), .int (i32 (G 12)), .int (i32 (1))]) (st := []) rfl rfl rfl rfl ⟨rfl, rfl, Nat.le_of_ble_eq_true rfl⟩ rfl rfl (c_readBehind (dd := d) (hd := by omega) (hW := hW253) (s := r43) (place := G 12) (ch := 1) (ln := ln) (e_ln := show G249 9 = ln from ((hF254.1 9 rfl).trans ((hF46.1 9 rfl).trans (e_ln)))) (le := le) (e_le := show A250 4 (ln).toNat = le from (congrFun ((hF254.2 4 rfl).trans (hF46.2 4 rfl)) _).trans (e_le)) (at0 := at2_251) (e_at0 := show G249 10 = at2_251 from (e255)) (fk := fk2_44) (e_fk := show G249 16 = fk2_44 from ((hF254.1 16 rfl).trans (e48))) (op0 := op0) (e_op0 := show G249 15 = op0 from ((hF254.1 15 rfl).trans ((hF46.1 15 rfl).trans (e_op0)))) (nd := nd) (e_nd := show G249 31 = nd from ((hF254.1 31 rfl).trans ((hF46.1 31 rfl).trans (e_nd)))) (tk0 := tk2_252) (e_tk0 := show G249 11 = tk2_252 from (e256)) (i_SV := (SV_ext (((hF254.1 29 rfl).trans (hF46.1 29 rfl))) (((hF254.2 14 rfl).trans (hF46.2 14 rfl))) i_SV)) (h_s := ⟨(Int.le_trans (by decide : (-2147483648 : Int) ≤ -2147483648) b47.1), (Int.le_trans b47.2 (by decide : (2147483647 : Int) ≤ 2147483647))⟩) (h_place := ⟨(Int.le_trans (by decide : (-2147483648 : Int) ≤ -3000) b39.1), (Int.le_trans b39.2 (by decide : (3002 : Int) ≤ 2147483647))⟩) (h_ch := ⟨(by decide), (by decide)⟩)  (p_0 := by omega) (p_1 := by omega) (p_2 := by omega) (p_3 := by omega) (p_4 := by omega) (p_5 := by omega) (p_6 := by omega) (p_7 := by omega) (p_8 := by omega) (p_9 := a57)) (fun o V' hq => ?_)
                            obtain ⟨G327, A328, r329, at2_330, fk2_331, op2_332, nd2_333, tk2_334, rfl, rfl, hW335, hF336, hQ337, b338, e339, e340, e341, e342, e343, p344, p345, p346, p347, p348, p349, q350⟩ := hq
                            have hF351 := Fr_tr hF261 hF336 (Fr_sub (by decide)) (Fr_sub (by decide))
                            have hP352 := Pf_tr hP262 hQ337 (by omega)
                            have bat2_330 : (0 : Int) ≤ at2_330 ∧ at2_330 ≤ 3002 := e339 ▸ hW335.1 10
                            have bfk2_331 : (0 : Int) ≤ fk2_331 ∧ fk2_331 ≤ 6 := e340 ▸ hW335.1 16
                            have bop2_332 : (-2147483648 : Int) ≤ op2_332 ∧ op2_332 ≤ 2147483647 := e341 ▸ hW335.1 15
                            have bnd2_333 : (0 : Int) ≤ nd2_333 ∧ nd2_333 ≤ 6999 := e342 ▸ hW335.1 31
                            have ztk2_334 := tz_b tk2_334
                            have btk2_334 : (0 : Int) ≤ tk2_334 ∧ tk2_334 ≤ 5 := e343 ▸ hW335.1 11
                            refine .inr ⟨_, rfl, ?_⟩
                            rcases q350 with ⟨a353, a354, a355⟩ | ⟨a356, a357, a358, a359⟩
                            · have _q : True := trivial
                              refine jx_ld (pc' := 172) (l' := jSto1 L66 3 (.int (i32 (r329)))) (st' := []) rfl rfl ?_
                              obtain ⟨L360, eL360⟩ : ∃ q, q = jSto1 L66 3 (.int (i32 (r329))) := ⟨_, rfl⟩
                              rw [← eL360]
                              have gL360_0 : jGet L360 0 = some (.ref 66) := eL360 ▸ jg_ne (by decide) gL66_0 rfl
                              have gL360_1 : jGet L360 1 = some (.int (i32 (pa))) := eL360 ▸ jg_ne (by decide) gL66_1 rfl
                              have gL360_2 : jGet L360 2 = some (.int (i32 (kp))) := eL360 ▸ jg_ne (by decide) gL66_2 rfl
                              have gL360_4 : jGet L360 4 = some (.int (i32 (G 12))) := eL360 ▸ jg_ne (by decide) gL66_4 rfl
                              have gL360_5 : jGet L360 5 = some (.int (i32 (r43))) := eL360 ▸ jg_ne (by decide) gL66_5 rfl
                              have gL360_3 : jGet L360 3 = some (.int (i32 (r329))) := eL360 ▸ jg_eq
                              refine jx_ld (pc' := 173) (l' := L360) (st' := [.ref 66]) rfl (jl_aloadn gL360_0) ?_
                              refine jx_ar (pc' := 175) (st' := [.int (i32 (7)), .ref 66]) rfl rfl rfl rfl ?_
                              refine jx_ld (pc' := 176) (l' := L360) (st' := [.int (i32 (r329)), .int (i32 (7)), .ref 66]) rfl (jl_iloadn gL360_3) ?_
                              refine jx_ld (pc' := 177) (l' := L360) (st' := [.int (i32 (pa)), .int (i32 (r329)), .int (i32 (7)), .ref 66]) rfl (jl_iloadn gL360_1) ?_
                              refine jx_ar (pc' := 178) (st' := [.int (i32 (0)), .int (i32 (pa)), .int (i32 (r329)), .int (i32 (7)), .ref 66]) rfl rfl rfl rfl ?_
                              refine jx_ar (pc' := 179) (st' := [.int (i32 (0)), .int (i32 (0)), .int (i32 (pa)), .int (i32 (r329)), .int (i32 (7)), .ref 66]) rfl rfl rfl rfl ?_
                              refine jx_vr (pc' := 182) (as := [.int (i32 (7)), .int (i32 (r329)), .int (i32 (pa)), .int (i32 (0)), .int (i32 (0))]) (st := []) rfl rfl rfl rfl ⟨rfl, rfl, Nat.le_of_ble_eq_true rfl⟩ rfl rfl (c_node (dd := d) (hd := by omega) (hW := hW335) (kind := 7) (a := r329) (b := pa) (c := 0) (e := 0) (nd := nd2_333) (e_nd := show G327 31 = nd2_333 from (e342))  (h_kind := ⟨(by decide), (by decide)⟩) (h_a := ⟨(Int.le_trans (by decide : (-2147483648 : Int) ≤ -2147483648) b338.1), (Int.le_trans b338.2 (by decide : (2147483647 : Int) ≤ 2147483647))⟩) (h_b := ⟨(Int.le_trans (by decide : (-2147483648 : Int) ≤ -2147483648) h_pa.1), (Int.le_trans h_pa.2 (by decide : (2147483647 : Int) ≤ 2147483647))⟩) (h_c := ⟨(by decide), (by decide)⟩) (h_e := ⟨(by decide), (by decide)⟩)  (p_0 := by omega) (p_1 := by omega)) (fun o V' hq => ?_)
                              obtain ⟨G361, A362, nd2_363, rfl, rfl, hW364, hF365, hQ366, e367, p368, p369, -⟩ := hq
                              have hF371 := Fr_tr hF351 hF365 (Fr_sub (by decide)) (Fr_sub (by decide))
                              have hP372 := Pf_tr hP352 hQ366 (by omega)
                              have bnd2_363 : (0 : Int) ≤ nd2_363 ∧ nd2_363 ≤ 6999 := e367 ▸ hW364.1 31
                              refine .inr ⟨_, rfl, ?_⟩
                              refine jx_rt (v := some (.int (i32 (nd2_333)))) rfl rfl rfl rfl rfl rfl ?_
                              have z373 := tz_f (tk2_334)
                              exact ⟨_, _, _, at2_330, fk2_331, op2_332, nd2_363, tk2_334, rfl, rfl, hW364, hF371, hP372, by omega, ((hF365.1 10 rfl).trans (e339)), ((hF365.1 16 rfl).trans (e340)), ((hF365.1 15 rfl).trans (e341)), (e367), ((hF365.1 11 rfl).trans (e343)), by omega, by omega, by omega, by omega, by omega, by omega, by first | exact Or.inl (⟨by omega, by omega, by omega⟩)⟩
                            · have _q : True := trivial
                              refine jx_ld (pc' := 172) (l' := jSto1 L66 3 (.int (i32 (r329)))) (st' := []) rfl rfl ?_
                              obtain ⟨L374, eL374⟩ : ∃ q, q = jSto1 L66 3 (.int (i32 (r329))) := ⟨_, rfl⟩
                              rw [← eL374]
                              have gL374_0 : jGet L374 0 = some (.ref 66) := eL374 ▸ jg_ne (by decide) gL66_0 rfl
                              have gL374_1 : jGet L374 1 = some (.int (i32 (pa))) := eL374 ▸ jg_ne (by decide) gL66_1 rfl
                              have gL374_2 : jGet L374 2 = some (.int (i32 (kp))) := eL374 ▸ jg_ne (by decide) gL66_2 rfl
                              have gL374_4 : jGet L374 4 = some (.int (i32 (G 12))) := eL374 ▸ jg_ne (by decide) gL66_4 rfl
                              have gL374_5 : jGet L374 5 = some (.int (i32 (r43))) := eL374 ▸ jg_ne (by decide) gL66_5 rfl
                              have gL374_3 : jGet L374 3 = some (.int (i32 (r329))) := eL374 ▸ jg_eq
                              refine jx_ld (pc' := 173) (l' := L374) (st' := [.ref 66]) rfl (jl_aloadn gL374_0) ?_
                              refine jx_ar (pc' := 175) (st' := [.int (i32 (7)), .ref 66]) rfl rfl rfl rfl ?_
                              refine jx_ld (pc' := 176) (l' := L374) (st' := [.int (i32 (r329)), .int (i32 (7)), .ref 66]) rfl (jl_iloadn gL374_3) ?_
                              refine jx_ld (pc' := 177) (l' := L374) (st' := [.int (i32 (pa)), .int (i32 (r329)), .int (i32 (7)), .ref 66]) rfl (jl_iloadn gL374_1) ?_
                              refine jx_ar (pc' := 178) (st' := [.int (i32 (0)), .int (i32 (pa)), .int (i32 (r329)), .int (i32 (7)), .ref 66]) rfl rfl rfl rfl ?_
                              refine jx_ar (pc' := 179) (st' := [.int (i32 (0)), .int (i32 (0)), .int (i32 (pa)), .int (i32 (r329)), .int (i32 (7)), .ref 66]) rfl rfl rfl rfl ?_
                              refine jx_vr (pc' := 182) (as := [.int (i32 (7)), .int (i32 (r329)), .int (i32 (pa)), .int (i32 (0)), .int (i32 (0))]) (st := []) rfl rfl rfl rfl ⟨rfl, rfl, Nat.le_of_ble_eq_true rfl⟩ rfl rfl (c_node (dd := d) (hd := by omega) (hW := hW335) (kind := 7) (a := r329) (b := pa) (c := 0) (e := 0) (nd := nd2_333) (e_nd := show G327 31 = nd2_333 from (e342))  (h_kind := ⟨(by decide), (by decide)⟩) (h_a := ⟨(Int.le_trans (by decide : (-2147483648 : Int) ≤ -2147483648) b338.1), (Int.le_trans b338.2 (by decide : (2147483647 : Int) ≤ 2147483647))⟩) (h_b := ⟨(Int.le_trans (by decide : (-2147483648 : Int) ≤ -2147483648) h_pa.1), (Int.le_trans h_pa.2 (by decide : (2147483647 : Int) ≤ 2147483647))⟩) (h_c := ⟨(by decide), (by decide)⟩) (h_e := ⟨(by decide), (by decide)⟩)  (p_0 := by omega) (p_1 := by omega)) (fun o V' hq => ?_)
                              obtain ⟨G375, A376, nd2_377, rfl, rfl, hW378, hF379, hQ380, e381, p382, p383, -⟩ := hq
                              have hF385 := Fr_tr hF351 hF379 (Fr_sub (by decide)) (Fr_sub (by decide))
                              have hP386 := Pf_tr hP352 hQ380 (by omega)
                              have sf387 : wR A376 Vs sb (20) (1) (r329) (nd) (nd2_333) := wR_ag (by omega) (Sg_fr hF379 (by decide)) (Ag_pf hQ380 (by omega)) a359
                              have bnd2_377 : (0 : Int) ≤ nd2_377 ∧ nd2_377 ≤ 6999 := e381 ▸ hW378.1 31
                              refine .inr ⟨_, rfl, ?_⟩
                              refine jx_rt (v := some (.int (i32 (nd2_333)))) rfl rfl rfl rfl rfl rfl ?_
                              have z388 := tz_f (tk2_334)
                              exact ⟨_, _, _, at2_330, fk2_331, op2_332, nd2_377, tk2_334, rfl, rfl, hW378, hF385, hP386, by omega, ((hF379.1 10 rfl).trans (e339)), ((hF379.1 16 rfl).trans (e340)), ((hF379.1 15 rfl).trans (e341)), (e381), ((hF379.1 11 rfl).trans (e343)), by omega, by omega, by omega, by omega, by omega, by omega, by first | exact Or.inr ((⟨by omega, by omega, by omega, by omega, by omega, (wA_mk p383 (by omega) (by omega) (by omega) (by omega) (.inr (.inr (.inl ⟨((show A376 7 (pa).toNat = kp from (congrFun ((hF379.2 7 rfl).trans ((hF336.2 7 rfl).trans ((hF254.2 7 rfl).trans (hF46.2 7 rfl)))) _).trans (e_kp)).trans (by omega : kp = 8)), (wR_mono (by omega) (by omega) (by omega) sf387)⟩)))), (NX_nd p383)⟩))⟩
                        · have _q := h263
                          refine jx_ld (pc' := 139) (l' := L66) (st' := [.ref 66]) rfl (jl_aloadn gL66_0) ?_
                          refine jx_ar (pc' := 140) (st' := [.int (i32 (2)), .ref 66]) rfl rfl rfl rfl ?_
                          refine jx_ld (pc' := 142) (l' := L66) (st' := [.int (i32 (r43)), .int (i32 (2)), .ref 66]) rfl (jl_iload gL66_5) ?_
                          refine jx_ar (pc' := 143) (st' := [.int (i32 (0)), .int (i32 (r43)), .int (i32 (2)), .ref 66]) rfl rfl rfl rfl ?_
                          refine jx_ar (pc' := 144) (st' := [.int (i32 (0)), .int (i32 (0)), .int (i32 (r43)), .int (i32 (2)), .ref 66]) rfl rfl rfl rfl ?_
                          refine jx_ar (pc' := 145) (st' := [.int (i32 (0)), .int (i32 (0)), .int (i32 (0)), .int (i32 (r43)), .int (i32 (2)), .ref 66]) rfl rfl rfl rfl ?_
                          refine jx_vr (pc' := 148) (as := [.int (i32 (2)), .int (i32 (r43)), .int (i32 (0)), .int (i32 (0)), .int (i32 (0))]) (st := []) rfl rfl rfl rfl ⟨rfl, rfl, Nat.le_of_ble_eq_true rfl⟩ rfl rfl (c_node (dd := d) (hd := by omega) (hW := hW253) (kind := 2) (a := r43) (b := 0) (c := 0) (e := 0) (nd := nd) (e_nd := show G249 31 = nd from ((hF254.1 31 rfl).trans ((hF46.1 31 rfl).trans (e_nd))))  (h_kind := ⟨(by decide), (by decide)⟩) (h_a := ⟨(Int.le_trans (by decide : (-2147483648 : Int) ≤ -2147483648) b47.1), (Int.le_trans b47.2 (by decide : (2147483647 : Int) ≤ 2147483647))⟩) (h_b := ⟨(by decide), (by decide)⟩) (h_c := ⟨(by decide), (by decide)⟩) (h_e := ⟨(by decide), (by decide)⟩)  (p_0 := by omega) (p_1 := by omega)) (fun o V' hq => ?_)
                          obtain ⟨G389, A390, nd2_391, rfl, rfl, hW392, hF393, hQ394, e395, p396, p397, -⟩ := hq
                          have hF399 := Fr_tr hF261 hF393 (Fr_sub (by decide)) (Fr_sub (by decide))
                          have hP400 := Pf_tr hP262 hQ394 (by omega)
                          have bnd2_391 : (0 : Int) ≤ nd2_391 ∧ nd2_391 ≤ 6999 := e395 ▸ hW392.1 31
                          refine .inr ⟨_, rfl, ?_⟩
                          refine jx_ld (pc' := 149) (l' := jSto1 L66 3 (.int (i32 (nd)))) (st' := []) rfl rfl ?_
                          obtain ⟨L401, eL401⟩ : ∃ q, q = jSto1 L66 3 (.int (i32 (nd))) := ⟨_, rfl⟩
                          rw [← eL401]
                          have gL401_0 : jGet L401 0 = some (.ref 66) := eL401 ▸ jg_ne (by decide) gL66_0 rfl
                          have gL401_1 : jGet L401 1 = some (.int (i32 (pa))) := eL401 ▸ jg_ne (by decide) gL66_1 rfl
                          have gL401_2 : jGet L401 2 = some (.int (i32 (kp))) := eL401 ▸ jg_ne (by decide) gL66_2 rfl
                          have gL401_4 : jGet L401 4 = some (.int (i32 (G 12))) := eL401 ▸ jg_ne (by decide) gL66_4 rfl
                          have gL401_5 : jGet L401 5 = some (.int (i32 (r43))) := eL401 ▸ jg_ne (by decide) gL66_5 rfl
                          have gL401_3 : jGet L401 3 = some (.int (i32 (nd))) := eL401 ▸ jg_eq
                          refine jx_go (tg := 172) rfl rfl ?_
                          refine jx_ld (pc' := 173) (l' := L401) (st' := [.ref 66]) rfl (jl_aloadn gL401_0) ?_
                          refine jx_ar (pc' := 175) (st' := [.int (i32 (7)), .ref 66]) rfl rfl rfl rfl ?_
                          refine jx_ld (pc' := 176) (l' := L401) (st' := [.int (i32 (nd)), .int (i32 (7)), .ref 66]) rfl (jl_iloadn gL401_3) ?_
                          refine jx_ld (pc' := 177) (l' := L401) (st' := [.int (i32 (pa)), .int (i32 (nd)), .int (i32 (7)), .ref 66]) rfl (jl_iloadn gL401_1) ?_
                          refine jx_ar (pc' := 178) (st' := [.int (i32 (0)), .int (i32 (pa)), .int (i32 (nd)), .int (i32 (7)), .ref 66]) rfl rfl rfl rfl ?_
                          refine jx_ar (pc' := 179) (st' := [.int (i32 (0)), .int (i32 (0)), .int (i32 (pa)), .int (i32 (nd)), .int (i32 (7)), .ref 66]) rfl rfl rfl rfl ?_
                          refine jx_vr (pc' := 182) (as := [.int (i32 (7)), .int (i32 (nd)), .int (i32 (pa)), .int (i32 (0)), .int (i32 (0))]) (st := []) rfl rfl rfl rfl ⟨rfl, rfl, Nat.le_of_ble_eq_true rfl⟩ rfl rfl (c_node (dd := d) (hd := by omega) (hW := hW392) (kind := 7) (a := nd) (b := pa) (c := 0) (e := 0) (nd := nd2_391) (e_nd := show G389 31 = nd2_391 from (e395))  (h_kind := ⟨(by decide), (by decide)⟩) (h_a := ⟨(Int.le_trans (by decide : (-2147483648 : Int) ≤ 0) b_nd.1), (Int.le_trans b_nd.2 (by decide : (6999 : Int) ≤ 2147483647))⟩) (h_b := ⟨(Int.le_trans (by decide : (-2147483648 : Int) ≤ -2147483648) h_pa.1), (Int.le_trans h_pa.2 (by decide : (2147483647 : Int) ≤ 2147483647))⟩) (h_c := ⟨(by decide), (by decide)⟩) (h_e := ⟨(by decide), (by decide)⟩)  (p_0 := by omega) (p_1 := by omega)) (fun o V' hq => ?_)
                          obtain ⟨G402, A403, nd2_404, rfl, rfl, hW405, hF406, hQ407, e408, p409, p410, -⟩ := hq
                          have hF412 := Fr_tr hF399 hF406 (Fr_sub (by decide)) (Fr_sub (by decide))
                          have hP413 := Pf_tr hP400 hQ407 (by omega)
                          have sf414 : ND A403 (nd) (2) (r43) (0) (0) (0) (0) (0) := ND_ag (by omega) (Ag_pf hQ407 (by omega)) p397
                          have bnd2_404 : (0 : Int) ≤ nd2_404 ∧ nd2_404 ≤ 6999 := e408 ▸ hW405.1 31
                          refine .inr ⟨_, rfl, ?_⟩
                          refine jx_rt (v := some (.int (i32 (nd2_391)))) rfl rfl rfl rfl rfl rfl ?_
                          have z415 := tz_f (tk2_252)
                          exact ⟨_, _, _, at2_251, fk2_44, op0, nd2_404, tk2_252, rfl, rfl, hW405, hF412, hP413, by omega, ((hF406.1 10 rfl).trans ((hF393.1 10 rfl).trans (e255))), ((hF406.1 16 rfl).trans ((hF393.1 16 rfl).trans ((hF254.1 16 rfl).trans (e48)))), ((hF406.1 15 rfl).trans ((hF393.1 15 rfl).trans ((hF254.1 15 rfl).trans ((hF46.1 15 rfl).trans (e_op0))))), (e408), ((hF406.1 11 rfl).trans ((hF393.1 11 rfl).trans (e256))), by omega, by omega, by omega, by omega, by omega, by omega, by first | exact Or.inr ((⟨by omega, by omega, by omega, by omega, by omega, (wA_mk p410 (by omega) (by omega) (by omega) (by omega) (.inr (.inr (.inr ⟨((show A403 7 (pa).toNat = kp from (congrFun ((hF406.2 7 rfl).trans ((hF393.2 7 rfl).trans ((hF254.2 7 rfl).trans (hF46.2 7 rfl)))) _).trans (e_kp)).trans (by omega : kp = 7)), wW_mk sf414 (by omega) (by omega) a57 (kq (P := kArr) (show A403 7 (r43).toNat = A 7 (r43).toNat from (congrFun ((hF406.2 7 rfl).trans ((hF393.2 7 rfl).trans ((hF254.2 7 rfl).trans (hF46.2 7 rfl)))) _)) a245) ((show A403 8 (r43).toNat = A 8 (r43).toNat from (congrFun ((hF406.2 8 rfl).trans ((hF393.2 8 rfl).trans ((hF254.2 8 rfl).trans (hF46.2 8 rfl)))) _)).trans ((by omega : A 8 (r43).toNat = zp).trans (show A403 8 (pa).toNat = zp from (congrFun ((hF406.2 8 rfl).trans ((hF393.2 8 rfl).trans ((hF254.2 8 rfl).trans (hF46.2 8 rfl)))) _).trans (e_zp)).symm))⟩)))), (NX_nd p410)⟩))⟩
                      · have _q := h248
                        refine jx_ld (pc' := 120) (l' := L66) (st' := [.ref 66]) rfl (jl_aloadn gL66_0) ?_
                        refine jx_ar (pc' := 121) (st' := [.int (i32 (4)), .ref 66]) rfl rfl rfl rfl ?_
                        refine jx_ld (pc' := 123) (l' := L66) (st' := [.int (i32 (G 12)), .int (i32 (4)), .ref 66]) rfl (jl_iload gL66_4) ?_
                        refine jx_vr (pc' := 126) (as := [.int (i32 (4)), .int (i32 (G 12))]) (st := []) rfl rfl rfl rfl ⟨rfl, rfl, Nat.le_of_ble_eq_true rfl⟩ rfl rfl (c_fail (dd := d) (hd := by omega) (hW := hW45) (kind := 4) (place := G 12) (fk := fk2_44) (e_fk := show G41 16 = fk2_44 from (e48))  (h_kind := ⟨(by decide), (by decide)⟩) (h_place := ⟨(Int.le_trans (by decide : (-2147483648 : Int) ≤ -3000) b39.1), (Int.le_trans b39.2 (by decide : (3002 : Int) ≤ 2147483647))⟩)  (p_0 := by omega) (p_1 := by omega)) (fun o V' hq => ?_)
                        obtain ⟨G416, A417, fk2_418, rfl, rfl, hW419, hF420, e421, p422, -⟩ := hq
                        have hF424 := Fr_tr hF50 hF420 (Fr_sub (by decide)) (Fr_sub (by decide))
                        have hP425 := Pf_f hP51 hF420 (by decide)
                        have bfk2_418 : (0 : Int) ≤ fk2_418 ∧ fk2_418 ≤ 6 := e421 ▸ hW419.1 16
                        refine .inl ⟨rfl, ?_⟩
                        refine jx_ar (pc' := 127) (st' := [.int (i32 (0))]) rfl rfl rfl rfl ?_
                        refine jx_rt (v := some (.int (i32 (0)))) rfl rfl rfl rfl rfl rfl ?_
                        have z426 := tz_f (tk0)
                        exact ⟨_, _, _, at0, fk2_418, op0, nd, tk0, rfl, rfl, hW419, hF424, hP425, by omega, ((hF420.1 10 rfl).trans ((hF46.1 10 rfl).trans (e_at0))), (e421), ((hF420.1 15 rfl).trans ((hF46.1 15 rfl).trans (e_op0))), ((hF420.1 31 rfl).trans ((hF46.1 31 rfl).trans (e_nd))), ((hF420.1 11 rfl).trans ((hF46.1 11 rfl).trans (e_tk0))), by omega, by omega, by omega, by omega, by omega, by omega, by first | exact Or.inl (⟨by omega, by omega, by omega⟩)⟩
                  · have _q : True := trivial
                    refine jx_if_eq (pc' := 103) (tg := 119) rfl rfl rfl (by decide) (by decide) (fun h427 => ?_) (fun h427 => ?_)
                    · have _q := h427
                      refine jx_ld (pc' := 120) (l' := L66) (st' := [.ref 66]) rfl (jl_aloadn gL66_0) ?_
                      refine jx_ar (pc' := 121) (st' := [.int (i32 (4)), .ref 66]) rfl rfl rfl rfl ?_
                      refine jx_ld (pc' := 123) (l' := L66) (st' := [.int (i32 (G 12)), .int (i32 (4)), .ref 66]) rfl (jl_iload gL66_4) ?_
                      refine jx_vr (pc' := 126) (as := [.int (i32 (4)), .int (i32 (G 12))]) (st := []) rfl rfl rfl rfl ⟨rfl, rfl, Nat.le_of_ble_eq_true rfl⟩ rfl rfl (c_fail (dd := d) (hd := by omega) (hW := hW45) (kind := 4) (place := G 12) (fk := fk2_44) (e_fk := show G41 16 = fk2_44 from (e48))  (h_kind := ⟨(by decide), (by decide)⟩) (h_place := ⟨(Int.le_trans (by decide : (-2147483648 : Int) ≤ -3000) b39.1), (Int.le_trans b39.2 (by decide : (3002 : Int) ≤ 2147483647))⟩)  (p_0 := by omega) (p_1 := by omega)) (fun o V' hq => ?_)
                      obtain ⟨G428, A429, fk2_430, rfl, rfl, hW431, hF432, e433, p434, -⟩ := hq
                      have hF436 := Fr_tr hF50 hF432 (Fr_sub (by decide)) (Fr_sub (by decide))
                      have hP437 := Pf_f hP51 hF432 (by decide)
                      have bfk2_430 : (0 : Int) ≤ fk2_430 ∧ fk2_430 ≤ 6 := e433 ▸ hW431.1 16
                      refine .inl ⟨rfl, ?_⟩
                      refine jx_ar (pc' := 127) (st' := [.int (i32 (0))]) rfl rfl rfl rfl ?_
                      refine jx_rt (v := some (.int (i32 (0)))) rfl rfl rfl rfl rfl rfl ?_
                      have z438 := tz_f (tk0)
                      exact ⟨_, _, _, at0, fk2_430, op0, nd, tk0, rfl, rfl, hW431, hF436, hP437, by omega, ((hF432.1 10 rfl).trans ((hF46.1 10 rfl).trans (e_at0))), (e433), ((hF432.1 15 rfl).trans ((hF46.1 15 rfl).trans (e_op0))), ((hF432.1 31 rfl).trans ((hF46.1 31 rfl).trans (e_nd))), ((hF432.1 11 rfl).trans ((hF46.1 11 rfl).trans (e_tk0))), by omega, by omega, by omega, by omega, by omega, by omega, by first | exact Or.inl (⟨by omega, by omega, by omega⟩)⟩
                    · have _q := h427
                      exact absurd h427 (by omega)
              · have _q := h72
                exact absurd h72 (by omega)
        · have _q := h38
          refine jx_ld (pc' := 52) (l' := L2) (st' := [.ref 66]) rfl (jl_aloadn gL2_0) ?_
          refine jx_ar (pc' := 53) (st' := [.int (i32 (4)), .ref 66]) rfl rfl rfl rfl ?_
          refine jx_ld (pc' := 54) (l' := L2) (st' := [.ref 66, .int (i32 (4)), .ref 66]) rfl (jl_aloadn gL2_0) ?_
          have b439 : (-3000 : Int) ≤ G 12 ∧ G 12 ≤ 3002 := hW.1 12
          refine jr_get (pc' := 57) (i := 12) (v := .int (i32 (G 12))) rfl rfl (by decide) rfl rfl ?_
          refine jx_vr (pc' := 60) (as := [.int (i32 (4)), .int (i32 (G 12))]) (st := []) rfl rfl rfl rfl ⟨rfl, rfl, Nat.le_of_ble_eq_true rfl⟩ rfl rfl (c_fail (dd := d) (hd := by omega) (hW := hW) (kind := 4) (place := G 12) (fk := fk) (e_fk := show G 16 = fk from (e_fk))  (h_kind := ⟨(by decide), (by decide)⟩) (h_place := ⟨(Int.le_trans (by decide : (-2147483648 : Int) ≤ -3000) b439.1), (Int.le_trans b439.2 (by decide : (3002 : Int) ≤ 2147483647))⟩)  (p_0 := by omega) (p_1 := by omega)) (fun o V' hq => ?_)
          obtain ⟨G440, A441, fk2_442, rfl, rfl, hW443, hF444, e445, p446, -⟩ := hq
          have hF448 := Fr_tr hF0 hF444 (Fr_sub (by decide)) (Fr_sub (by decide))
          have hP449 := Pf_f hP0 hF444 (by decide)
          have bfk2_442 : (0 : Int) ≤ fk2_442 ∧ fk2_442 ≤ 6 := e445 ▸ hW443.1 16
          refine .inl ⟨rfl, ?_⟩
          refine jx_go (tg := 172) rfl rfl ?_
          refine jx_ld (pc' := 173) (l' := L2) (st' := [.ref 66]) rfl (jl_aloadn gL2_0) ?_
          refine jx_ar (pc' := 175) (st' := [.int (i32 (7)), .ref 66]) rfl rfl rfl rfl ?_
          refine jx_ld (pc' := 176) (l' := L2) (st' := [.int (i32 (0)), .int (i32 (7)), .ref 66]) rfl (jl_iloadn gL2_3) ?_
          refine jx_ld (pc' := 177) (l' := L2) (st' := [.int (i32 (pa)), .int (i32 (0)), .int (i32 (7)), .ref 66]) rfl (jl_iloadn gL2_1) ?_
          refine jx_ar (pc' := 178) (st' := [.int (i32 (0)), .int (i32 (pa)), .int (i32 (0)), .int (i32 (7)), .ref 66]) rfl rfl rfl rfl ?_
          refine jx_ar (pc' := 179) (st' := [.int (i32 (0)), .int (i32 (0)), .int (i32 (pa)), .int (i32 (0)), .int (i32 (7)), .ref 66]) rfl rfl rfl rfl ?_
          refine jx_vr (pc' := 182) (as := [.int (i32 (7)), .int (i32 (0)), .int (i32 (pa)), .int (i32 (0)), .int (i32 (0))]) (st := []) rfl rfl rfl rfl ⟨rfl, rfl, Nat.le_of_ble_eq_true rfl⟩ rfl rfl (c_node (dd := d) (hd := by omega) (hW := hW443) (kind := 7) (a := 0) (b := pa) (c := 0) (e := 0) (nd := nd) (e_nd := show G440 31 = nd from ((hF444.1 31 rfl).trans (e_nd)))  (h_kind := ⟨(by decide), (by decide)⟩) (h_a := ⟨(by decide), (by decide)⟩) (h_b := ⟨(Int.le_trans (by decide : (-2147483648 : Int) ≤ -2147483648) h_pa.1), (Int.le_trans h_pa.2 (by decide : (2147483647 : Int) ≤ 2147483647))⟩) (h_c := ⟨(by decide), (by decide)⟩) (h_e := ⟨(by decide), (by decide)⟩)  (p_0 := by omega) (p_1 := by omega)) (fun o V' hq => ?_)
          obtain ⟨G450, A451, nd2_452, rfl, rfl, hW453, hF454, hQ455, e456, p457, p458, -⟩ := hq
          have hF460 := Fr_tr hF448 hF454 (Fr_sub (by decide)) (Fr_sub (by decide))
          have hP461 := Pf_tr hP449 hQ455 (by omega)
          have bnd2_452 : (0 : Int) ≤ nd2_452 ∧ nd2_452 ≤ 6999 := e456 ▸ hW453.1 31
          refine .inr ⟨_, rfl, ?_⟩
          refine jx_rt (v := some (.int (i32 (nd)))) rfl rfl rfl rfl rfl rfl ?_
          have z462 := tz_f (tk0)
          exact ⟨_, _, _, at0, fk2_442, op0, nd2_452, tk0, rfl, rfl, hW453, hF460, hP461, by omega, ((hF454.1 10 rfl).trans ((hF444.1 10 rfl).trans (e_at0))), ((hF454.1 16 rfl).trans (e445)), ((hF454.1 15 rfl).trans ((hF444.1 15 rfl).trans (e_op0))), (e456), ((hF454.1 11 rfl).trans ((hF444.1 11 rfl).trans (e_tk0))), by omega, by omega, by omega, by omega, by omega, by omega, by first | exact Or.inl (⟨by omega, by omega, by omega⟩)⟩
      · have _q := h36
        refine jx_ld (pc' := 36) (l' := L2) (st' := [.ref 66]) rfl (jl_aloadn gL2_0) ?_
        refine jx_vr (pc' := 39) (as := []) (st := []) rfl rfl rfl rfl ⟨rfl, rfl, Nat.le_of_ble_eq_true rfl⟩ rfl rfl (RE_all X 9 (dd := d) (hd := by omega) (hW := hW)  (ln := ln) (e_ln := show G 9 = ln from (e_ln)) (le := le) (e_le := show A 4 (ln).toNat = le from (e_le)) (at0 := at0) (e_at0 := show G 10 = at0 from (e_at0)) (fk := fk) (e_fk := show G 16 = fk from (e_fk)) (op0 := op0) (e_op0 := show G 15 = op0 from (e_op0)) (nd := nd) (e_nd := show G 31 = nd from (e_nd)) (tk0 := tk0) (e_tk0 := show G 11 = tk0 from (e_tk0)) (i_SV := (SV_ext (rfl) (rfl) i_SV))   (p_0 := by omega) (p_1 := by omega) (p_2 := by omega) (p_3 := by omega) (p_4 := by omega) (p_5 := by omega)) (fun o V' hq => ?_)
        obtain ⟨G463, A464, r465, at2_466, fk2_467, op2_468, nd2_469, tk2_470, rfl, rfl, hW471, hF472, hQ473, b474, e475, e476, e477, e478, e479, p480, p481, p482, p483, p484, p485, q486⟩ := hq
        have hF487 := Fr_tr hF0 hF472 (Fr_sub (by decide)) (Fr_sub (by decide))
        have hP488 := Pf_tr hP0 hQ473 (by omega)
        have bat2_466 : (0 : Int) ≤ at2_466 ∧ at2_466 ≤ 3002 := e475 ▸ hW471.1 10
        have bfk2_467 : (0 : Int) ≤ fk2_467 ∧ fk2_467 ≤ 6 := e476 ▸ hW471.1 16
        have bop2_468 : (-2147483648 : Int) ≤ op2_468 ∧ op2_468 ≤ 2147483647 := e477 ▸ hW471.1 15
        have bnd2_469 : (0 : Int) ≤ nd2_469 ∧ nd2_469 ≤ 6999 := e478 ▸ hW471.1 31
        have ztk2_470 := tz_b tk2_470
        have btk2_470 : (0 : Int) ≤ tk2_470 ∧ tk2_470 ≤ 5 := e479 ▸ hW471.1 11
        refine .inr ⟨_, rfl, ?_⟩
        rcases q486 with ⟨a489, a490, a491, a492, a493, a494⟩ | ⟨a495, a496, a497⟩ | ⟨a498, a499, a500, a501⟩
        · have _q : True := trivial
          exfalso
          omega
        · have _q : True := trivial
          refine jx_ld (pc' := 40) (l' := jSto1 L2 3 (.int (i32 (r465)))) (st' := []) rfl rfl ?_
          obtain ⟨L502, eL502⟩ : ∃ q, q = jSto1 L2 3 (.int (i32 (r465))) := ⟨_, rfl⟩
          rw [← eL502]
          have gL502_0 : jGet L502 0 = some (.ref 66) := eL502 ▸ jg_ne (by decide) gL2_0 rfl
          have gL502_1 : jGet L502 1 = some (.int (i32 (pa))) := eL502 ▸ jg_ne (by decide) gL2_1 rfl
          have gL502_2 : jGet L502 2 = some (.int (i32 (kp))) := eL502 ▸ jg_ne (by decide) gL2_2 rfl
          have gL502_3 : jGet L502 3 = some (.int (i32 (r465))) := eL502 ▸ jg_eq
          refine jx_go (tg := 172) rfl rfl ?_
          refine jx_ld (pc' := 173) (l' := L502) (st' := [.ref 66]) rfl (jl_aloadn gL502_0) ?_
          refine jx_ar (pc' := 175) (st' := [.int (i32 (7)), .ref 66]) rfl rfl rfl rfl ?_
          refine jx_ld (pc' := 176) (l' := L502) (st' := [.int (i32 (r465)), .int (i32 (7)), .ref 66]) rfl (jl_iloadn gL502_3) ?_
          refine jx_ld (pc' := 177) (l' := L502) (st' := [.int (i32 (pa)), .int (i32 (r465)), .int (i32 (7)), .ref 66]) rfl (jl_iloadn gL502_1) ?_
          refine jx_ar (pc' := 178) (st' := [.int (i32 (0)), .int (i32 (pa)), .int (i32 (r465)), .int (i32 (7)), .ref 66]) rfl rfl rfl rfl ?_
          refine jx_ar (pc' := 179) (st' := [.int (i32 (0)), .int (i32 (0)), .int (i32 (pa)), .int (i32 (r465)), .int (i32 (7)), .ref 66]) rfl rfl rfl rfl ?_
          refine jx_vr (pc' := 182) (as := [.int (i32 (7)), .int (i32 (r465)), .int (i32 (pa)), .int (i32 (0)), .int (i32 (0))]) (st := []) rfl rfl rfl rfl ⟨rfl, rfl, Nat.le_of_ble_eq_true rfl⟩ rfl rfl (c_node (dd := d) (hd := by omega) (hW := hW471) (kind := 7) (a := r465) (b := pa) (c := 0) (e := 0) (nd := nd2_469) (e_nd := show G463 31 = nd2_469 from (e478))  (h_kind := ⟨(by decide), (by decide)⟩) (h_a := ⟨(Int.le_trans (by decide : (-2147483648 : Int) ≤ -2147483648) b474.1), (Int.le_trans b474.2 (by decide : (2147483647 : Int) ≤ 2147483647))⟩) (h_b := ⟨(Int.le_trans (by decide : (-2147483648 : Int) ≤ -2147483648) h_pa.1), (Int.le_trans h_pa.2 (by decide : (2147483647 : Int) ≤ 2147483647))⟩) (h_c := ⟨(by decide), (by decide)⟩) (h_e := ⟨(by decide), (by decide)⟩)  (p_0 := by omega) (p_1 := by omega)) (fun o V' hq => ?_)
          obtain ⟨G503, A504, nd2_505, rfl, rfl, hW506, hF507, hQ508, e509, p510, p511, -⟩ := hq
          have hF513 := Fr_tr hF487 hF507 (Fr_sub (by decide)) (Fr_sub (by decide))
          have hP514 := Pf_tr hP488 hQ508 (by omega)
          have bnd2_505 : (0 : Int) ≤ nd2_505 ∧ nd2_505 ≤ 6999 := e509 ▸ hW506.1 31
          refine .inr ⟨_, rfl, ?_⟩
          refine jx_rt (v := some (.int (i32 (nd2_469)))) rfl rfl rfl rfl rfl rfl ?_
          have z515 := tz_f (tk2_470)
          exact ⟨_, _, _, at2_466, fk2_467, op2_468, nd2_505, tk2_470, rfl, rfl, hW506, hF513, hP514, by omega, ((hF507.1 10 rfl).trans (e475)), ((hF507.1 16 rfl).trans (e476)), ((hF507.1 15 rfl).trans (e477)), (e509), ((hF507.1 11 rfl).trans (e479)), by omega, by omega, by omega, by omega, by omega, by omega, by first | exact Or.inl (⟨by omega, by omega, by omega⟩)⟩
        · have _q : True := trivial
          refine jx_ld (pc' := 40) (l' := jSto1 L2 3 (.int (i32 (r465)))) (st' := []) rfl rfl ?_
          obtain ⟨L516, eL516⟩ : ∃ q, q = jSto1 L2 3 (.int (i32 (r465))) := ⟨_, rfl⟩
          rw [← eL516]
          have gL516_0 : jGet L516 0 = some (.ref 66) := eL516 ▸ jg_ne (by decide) gL2_0 rfl
          have gL516_1 : jGet L516 1 = some (.int (i32 (pa))) := eL516 ▸ jg_ne (by decide) gL2_1 rfl
          have gL516_2 : jGet L516 2 = some (.int (i32 (kp))) := eL516 ▸ jg_ne (by decide) gL2_2 rfl
          have gL516_3 : jGet L516 3 = some (.int (i32 (r465))) := eL516 ▸ jg_eq
          refine jx_go (tg := 172) rfl rfl ?_
          refine jx_ld (pc' := 173) (l' := L516) (st' := [.ref 66]) rfl (jl_aloadn gL516_0) ?_
          refine jx_ar (pc' := 175) (st' := [.int (i32 (7)), .ref 66]) rfl rfl rfl rfl ?_
          refine jx_ld (pc' := 176) (l' := L516) (st' := [.int (i32 (r465)), .int (i32 (7)), .ref 66]) rfl (jl_iloadn gL516_3) ?_
          refine jx_ld (pc' := 177) (l' := L516) (st' := [.int (i32 (pa)), .int (i32 (r465)), .int (i32 (7)), .ref 66]) rfl (jl_iloadn gL516_1) ?_
          refine jx_ar (pc' := 178) (st' := [.int (i32 (0)), .int (i32 (pa)), .int (i32 (r465)), .int (i32 (7)), .ref 66]) rfl rfl rfl rfl ?_
          refine jx_ar (pc' := 179) (st' := [.int (i32 (0)), .int (i32 (0)), .int (i32 (pa)), .int (i32 (r465)), .int (i32 (7)), .ref 66]) rfl rfl rfl rfl ?_
          refine jx_vr (pc' := 182) (as := [.int (i32 (7)), .int (i32 (r465)), .int (i32 (pa)), .int (i32 (0)), .int (i32 (0))]) (st := []) rfl rfl rfl rfl ⟨rfl, rfl, Nat.le_of_ble_eq_true rfl⟩ rfl rfl (c_node (dd := d) (hd := by omega) (hW := hW471) (kind := 7) (a := r465) (b := pa) (c := 0) (e := 0) (nd := nd2_469) (e_nd := show G463 31 = nd2_469 from (e478))  (h_kind := ⟨(by decide), (by decide)⟩) (h_a := ⟨(Int.le_trans (by decide : (-2147483648 : Int) ≤ -2147483648) b474.1), (Int.le_trans b474.2 (by decide : (2147483647 : Int) ≤ 2147483647))⟩) (h_b := ⟨(Int.le_trans (by decide : (-2147483648 : Int) ≤ -2147483648) h_pa.1), (Int.le_trans h_pa.2 (by decide : (2147483647 : Int) ≤ 2147483647))⟩) (h_c := ⟨(by decide), (by decide)⟩) (h_e := ⟨(by decide), (by decide)⟩)  (p_0 := by omega) (p_1 := by omega)) (fun o V' hq => ?_)
          obtain ⟨G517, A518, nd2_519, rfl, rfl, hW520, hF521, hQ522, e523, p524, p525, -⟩ := hq
          have hF527 := Fr_tr hF487 hF521 (Fr_sub (by decide)) (Fr_sub (by decide))
          have hP528 := Pf_tr hP488 hQ522 (by omega)
          have sf529 : wE A518 Vs sb (2 * 9 + 2) (r465) (nd) (nd2_469) := wE_ag (by omega) (Sg_fr hF521 (by decide)) (Ag_pf hQ522 (by omega)) a501
          have bnd2_519 : (0 : Int) ≤ nd2_519 ∧ nd2_519 ≤ 6999 := e523 ▸ hW520.1 31
          refine .inr ⟨_, rfl, ?_⟩
          refine jx_rt (v := some (.int (i32 (nd2_469)))) rfl rfl rfl rfl rfl rfl ?_
          have z530 := tz_f (tk2_470)
          exact ⟨_, _, _, at2_466, fk2_467, op2_468, nd2_519, tk2_470, rfl, rfl, hW520, hF527, hP528, by omega, ((hF521.1 10 rfl).trans (e475)), ((hF521.1 16 rfl).trans (e476)), ((hF521.1 15 rfl).trans (e477)), (e523), ((hF521.1 11 rfl).trans (e479)), by omega, by omega, by omega, by omega, by omega, by omega, by first | exact Or.inr ((⟨by omega, by omega, by omega, by omega, by omega, (wA_mk p525 (by omega) (by omega) (by omega) (by omega) (.inl ⟨((show A518 7 (pa).toNat = kp from (congrFun ((hF521.2 7 rfl).trans (hF472.2 7 rfl)) _).trans (e_kp)).trans (by omega : kp = 5)), (wE_mono (by omega) (by omega) (by omega) sf529)⟩)), (NX_nd p525)⟩))⟩
    · have _q := h35
      exact absurd h35 (by omega)
set_option maxRecDepth 20000 in
set_option maxHeartbeats 4000000 in
theorem c_readCall_at_88p {X : jX} {d : Nat} {Vs : Nat → Prop} {sb pb : Int} {c0 c1 : jC} {G : Nat → Int} {A : Nat → Nat → Int} {T : jH} {s : Int} {ln le at0 fk op0 nd tk0 li kd nu mp pp : Int} (hd : 71 ≤ d + 1) (hW : Wk G A) (e_ln : G 9 = ln) (e_le : A 4 (ln).toNat = le) (e_at0 : G 10 = at0) (e_fk : G 16 = fk) (e_op0 : G 15 = op0) (e_nd : G 31 = nd) (e_tk0 : G 11 = tk0) (e_li : G 3 = li) (e_kd : A 7 (s).toNat = kd) (e_nu : A 12 (s).toNat = nu) (e_mp : A 30 (nu).toNat = mp) (e_pp : A 29 (nu).toNat = pp) (i_SV : SV Vs sb G A) (i_PQ : PQ Vs sb pb G A) (h_s : (-2147483648 : Int) ≤ s ∧ s ≤ 2147483647) (p_0 : 0 ≤ op0 ∧ op0 ≤ 8) (p_1 : fk = 0) (p_2 : nd ≤ 2 * at0 - tz tk0 + 42) (p_3 : at0 ≤ le) (p_4 : ln < li) (p_5 : 0 ≤ s ∧ s ≤ 201) (p_6 : 1 ≤ tk0) (p_7 : kd = 14) (p_8 : SY Vs sb (s)) : ∀ (L : jL) (Gx : Nat → Int) (Ax : Nat → Nat → Int) (n many last kk at1 tk1 fk1 nd1 op1 : Int), jGet L 0 = some (.ref 66) → jGet L 1 = some (.int (i32 (s))) → jGet L 2 = some (.int (i32 n)) → jGet L 3 = some (.int (i32 many)) → jGet L 4 = some (.int (i32 last)) → jGet L 5 = some (.int (i32 kk)) → Wk Gx Ax → Fr [9, 10, 11, 12, 13, 14, 15, 16, 17, 18, 31] [15, 16, 17, 18, 19, 20, 21, 22, 24, 28] G A Gx Ax → Pf nd A Ax → Gx 10 = at1 → Gx 11 = tk1 → Gx 16 = fk1 → Gx 31 = nd1 → Gx 15 = op1 → Gx 9 = ln → ((-2147483648 : Int) ≤ n ∧ n ≤ 2147483647) → ((-2147483648 : Int) ≤ many ∧ many ≤ 2147483647) → ((-2147483648 : Int) ≤ last ∧ last ≤ 2147483647) → ((-2147483648 : Int) ≤ kk ∧ kk ≤ 2147483647) → (1 ≤ fk1) → (at0 ≤ at1) → (at1 ≤ le) → (nd ≤ n ∧ n ≤ 6998) → (nd ≤ nd1 ∧ n < nd1) → (0 ≤ op1 ∧ op1 ≤ 9) → (nd1 - nd ≤ (2 * at1 - tz tk1) - (2 * at0 - tz tk0) + 4) → wj X d jm305 (88, L, [], rV c0 c1 Gx Ax T) (fun o V' => ∃ (G' : Nat → Int) (A' : Nat → Nat → Int) (r : Int) (at2 : Int) (fk2 : Int) (nd2 : Int) (ln2 : Int), V' = rV c0 c1 G' A' T ∧ o = .inl (some (.int (i32 r))) ∧ Wk G' A' ∧ Fr [9, 10, 11, 12, 13, 14, 15, 16, 17, 18, 31] [15, 16, 17, 18, 19, 20, 21, 22, 24, 28] G A G' A' ∧ Pf nd A A' ∧ ((-2147483648 : Int) ≤ r ∧ r ≤ 2147483647) ∧ G' 10 = at2 ∧ G' 16 = fk2 ∧ G' 31 = nd2 ∧ G' 9 = ln2 ∧ (at0 ≤ at2) ∧ (at2 ≤ le) ∧ (nd ≤ nd2) ∧ (0 ≤ r) ∧ (r ≤ nd2) ∧ (((1 ≤ fk2) ∧ (ln2 = ln) ∧ (nd2 - nd ≤ 2 * at2 - 2 * at0 + 8)) ∨ ((fk2 = 0) ∧ (ln2 = ln + 1) ∧ (nd2 - nd ≤ 2 * at2 - (2 * at0 - tz tk0) + 0) ∧ (nd ≤ r) ∧ (r < nd2) ∧ (wL A' sb pb Vs (r) (nd) (nd2)) ∧ (NX A' (r))))) := by
  have hF0 : Fr [9, 10, 11, 12, 13, 14, 15, 16, 17, 18, 31] [15, 16, 17, 18, 19, 20, 21, 22, 24, 28] G A G A := Fr_rf
  have hP0 : Pf nd A A := Pf_rf
  have b_ln : (0 : Int) ≤ ln ∧ ln ≤ 3000 := e_ln ▸ hW.1 9
  have b_le : (0 : Int) ≤ le ∧ le ≤ 3000 := e_le ▸ hW.2 4 _
  have b_at0 : (0 : Int) ≤ at0 ∧ at0 ≤ 3002 := e_at0 ▸ hW.1 10
  have b_fk : (0 : Int) ≤ fk ∧ fk ≤ 6 := e_fk ▸ hW.1 16
  have b_op0 : (-2147483648 : Int) ≤ op0 ∧ op0 ≤ 2147483647 := e_op0 ▸ hW.1 15
  have b_nd : (0 : Int) ≤ nd ∧ nd ≤ 6999 := e_nd ▸ hW.1 31
  have z_tk0 := tz_f tk0
  have b_tk0 : (0 : Int) ≤ tk0 ∧ tk0 ≤ 5 := e_tk0 ▸ hW.1 11
  have b_li : (0 : Int) ≤ li ∧ li ≤ 3000 := e_li ▸ hW.1 3
  have b_kd : (0 : Int) ≤ kd ∧ kd ≤ 14 := e_kd ▸ hW.2 7 _
  have b_nu : (0 : Int) ≤ nu ∧ nu ≤ 24 := e_nu ▸ hW.2 12 _
  have b_mp : (0 : Int) ≤ mp ∧ mp ≤ 6 := e_mp ▸ hW.2 30 _
  have b_pp : (0 : Int) ≤ pp ∧ pp ≤ 202 := e_pp ▸ hW.2 29 _
  have pq := PQ_at i_PQ p_8 (e_kd.trans (by omega)) e_nu e_mp e_pp
  intro L Gx Ax n many last kk at1 tk1 fk1 nd1 op1 gL_0 gL_1 gL_2 gL_3 gL_4 gL_5 hWx hFx hPx ex_at1 ex_tk1 ex_fk1 ex_nd1 ex_op1 fx_9 rx_n rx_many rx_last rx_kk iv_0 iv_1 iv_2 iv_3 iv_4 iv_5 iv_6
  have b_at1 : (0 : Int) ≤ at1 ∧ at1 ≤ 3002 := ex_at1 ▸ hWx.1 10
  have z_tk1 := tz_f tk1
  have b_tk1 : (0 : Int) ≤ tk1 ∧ tk1 ≤ 5 := ex_tk1 ▸ hWx.1 11
  have b_fk1 : (0 : Int) ≤ fk1 ∧ fk1 ≤ 6 := ex_fk1 ▸ hWx.1 16
  have b_nd1 : (0 : Int) ≤ nd1 ∧ nd1 ≤ 6999 := ex_nd1 ▸ hWx.1 31
  have b_op1 : (-2147483648 : Int) ≤ op1 ∧ op1 ≤ 2147483647 := ex_op1 ▸ hWx.1 15
  refine jx_ld (pc' := 89) (l' := L) (st' := [.ref 66]) rfl (jl_aloadn gL_0) ?_
  refine jx_vr (pc' := 92) (as := []) (st := []) rfl rfl rfl rfl ⟨rfl, rfl, Nat.le_of_ble_eq_true rfl⟩ rfl rfl (c_bad (dd := d) (hd := by omega) (hW := hWx)  (fk := fk1) (e_fk := show Gx 16 = fk1 from (ex_fk1))    ) (fun o V' hq => ?_)
  obtain ⟨r1, rfl, rfl, b2, q3⟩ := hq
  refine .inr ⟨_, rfl, ?_⟩
  rcases q3 with ⟨rfl, a4⟩ | ⟨rfl, a5⟩
  · have _q : True := trivial
    refine jx_if_ne (pc' := 95) (tg := 233) rfl rfl rfl (by decide) (by decide) (fun h6 => ?_) (fun h6 => ?_)
    · have _q := h6
      refine jx_ld (pc' := 234) (l' := L) (st' := [.ref 66]) rfl (jl_aloadn gL_0) ?_
      refine jx_ld (pc' := 235) (l' := L) (st' := [.ref 66, .ref 66]) rfl (jl_aloadn gL_0) ?_
      refine jx_ar (pc' := 237) (st' := [.int (i32 (41)), .ref 66, .ref 66]) rfl rfl rfl rfl ?_
      have b7 : (-2147483648 : Int) ≤ Gx 13 ∧ Gx 13 ≤ 2147483647 := hWx.1 13
      refine jx_vr (pc' := 240) (as := [.int (i32 (41))]) (st := [.ref 66]) rfl rfl rfl rfl ⟨rfl, rfl, Nat.le_of_ble_eq_true rfl⟩ rfl rfl (c_is (dd := d) (hd := by omega) (hW := hWx) (k := 41) (tk := tk1) (e_tk := show Gx 11 = tk1 from (ex_tk1)) (tn := Gx 13) (e_tn := show Gx 13 = Gx 13 from rfl)  (h_k := ⟨(by decide), (by decide)⟩)  ) (fun o V' hq => ?_)
      obtain ⟨r8, rfl, rfl, b9, q10⟩ := hq
      refine .inr ⟨_, rfl, ?_⟩
      rcases q10 with ⟨rfl, a11, a12, a13⟩ | rfl
      · have _q : True := trivial
        refine jx_vr (pc' := 243) (as := [.int (i32 (1))]) (st := []) rfl rfl rfl rfl ⟨rfl, rfl, Nat.le_of_ble_eq_true rfl⟩ rfl rfl (c_need (dd := d) (hd := by omega) (hW := hWx) (g := 1) (ln := ln) (e_ln := show Gx 9 = ln from (fx_9)) (le := le) (e_le := show Ax 4 (ln).toNat = le from (congrFun (hFx.2 4 rfl) _).trans (e_le)) (at0 := at1) (e_at0 := show Gx 10 = at1 from (ex_at1)) (fk := fk1) (e_fk := show Gx 16 = fk1 from (ex_fk1)) (tk0 := tk1) (e_tk0 := show Gx 11 = tk1 from (ex_tk1))  (h_g := ⟨(by decide), (by decide)⟩)  (p_0 := by omega)) (fun o V' hq => ?_)
        obtain ⟨G14, A15, at2_16, tk2_17, fk2_18, rfl, rfl, hW19, hF20, e21, e22, e23, p24, p25, q26⟩ := hq
        have hF27 := Fr_tr hFx hF20 (Fr_sub (by decide)) (Fr_sub (by decide))
        have hP28 := Pf_f hPx hF20 (by decide)
        have bat2_16 : (0 : Int) ≤ at2_16 ∧ at2_16 ≤ 3002 := e21 ▸ hW19.1 10
        have ztk2_17 := tz_b tk2_17
        have btk2_17 : (0 : Int) ≤ tk2_17 ∧ tk2_17 ≤ 5 := e22 ▸ hW19.1 11
        have bfk2_18 : (0 : Int) ≤ fk2_18 ∧ fk2_18 ≤ 6 := e23 ▸ hW19.1 16
        refine .inl ⟨rfl, ?_⟩
        rcases q26 with ⟨a29, a30, a31, a32⟩ | ⟨a33, a34, a35, a36⟩
        · have _q : True := trivial
          refine jx_ld (pc' := 244) (l' := L) (st' := [.ref 66]) rfl (jl_aloadn gL_0) ?_
          refine jx_ar (pc' := 245) (st' := [.ref 66, .ref 66]) rfl rfl rfl rfl ?_
          refine jr_get (pc' := 248) (i := 15) (v := .int (i32 (op1))) rfl rfl (by decide) (rFv_eq (by decide) (show G14 15 = op1 from ((hF20.1 15 rfl).trans (ex_op1)))) rfl ?_
          refine jx_ar (pc' := 249) (st' := [.int (i32 (1)), .int (i32 (op1)), .ref 66]) rfl rfl rfl rfl ?_
          refine jx_sub (pc' := 250) rfl rfl ?_
          refine jr_put (pc' := 253) (i := 15) (z := (op1 - 1)) rfl rfl (by decide) rfl rfl rfl rfl rfl rfl ?_
          have hW37 : Wk (uG G14 15 ((op1 - 1))) A15 := Wk_g hW19 (show (-2147483648 : Int) ≤ (op1 - 1) by omega) (show (op1 - 1) ≤ (2147483647 : Int) by omega)
          have hF38 := Fr_g (z := (op1 - 1)) (i := 15) hF27 (by decide)
          refine jx_ld (pc' := 254) (l' := L) (st' := [.ref 66]) rfl (jl_aloadn gL_0) ?_
          refine jx_vr (pc' := 257) (as := []) (st := []) rfl rfl rfl rfl ⟨rfl, rfl, Nat.le_of_ble_eq_true rfl⟩ rfl rfl (c_endLine (dd := d) (hd := by omega) (hW := hW37)  (ln := ln) (e_ln := show (uG G14 15 ((op1 - 1))) 9 = ln from ((hF20.1 9 rfl).trans (fx_9))) (li := li) (e_li := show (uG G14 15 ((op1 - 1))) 3 = li from ((hF20.1 3 rfl).trans ((hFx.1 3 rfl).trans (e_li)))) (fk := fk2_18) (e_fk := show (uG G14 15 ((op1 - 1))) 16 = fk2_18 from (e23)) (tk0 := tk2_17) (e_tk0 := show (uG G14 15 ((op1 - 1))) 11 = tk2_17 from (e22))    (p_0 := by omega)) (fun o V' hq => ?_)
          obtain ⟨G39, A40, ln2_41, fk2_42, rfl, rfl, hW43, hF44, e45, e46, q47⟩ := hq
          have hF48 := Fr_tr hF38 hF44 (Fr_sub (by decide)) (Fr_sub (by decide))
          have hP49 := Pf_f hP28 hF44 (by decide)
          have bln2_41 : (0 : Int) ≤ ln2_41 ∧ ln2_41 ≤ 3000 := e45 ▸ hW43.1 9
          have bfk2_42 : (0 : Int) ≤ fk2_42 ∧ fk2_42 ≤ 6 := e46 ▸ hW43.1 16
          refine .inl ⟨rfl, ?_⟩
          rcases q47 with ⟨a50, a51, a52, a53, a54⟩ | ⟨a55, a56⟩
          · have _q : True := trivial
            exfalso
            omega
          · have _q : True := trivial
            refine jx_ld (pc' := 258) (l' := L) (st' := [.int (i32 (n))]) rfl (jl_iloadn gL_2) ?_
            refine jx_rt (v := some (.int (i32 (n)))) rfl rfl rfl rfl rfl rfl ?_
            exact ⟨_, _, _, at2_16, fk2_42, nd1, ln2_41, rfl, rfl, hW43, hF48, hP49, by omega, ((hF44.1 10 rfl).trans (e21)), (e46), ((hF44.1 31 rfl).trans ((hF20.1 31 rfl).trans (ex_nd1))), (e45), by omega, by omega, by omega, by omega, by omega, by first | exact Or.inl (⟨by omega, by omega, by omega⟩)⟩
        · have _q : True := trivial
          exfalso
          omega
      · have _q : True := trivial
        refine jx_vr (pc' := 243) (as := [.int (i32 (0))]) (st := []) rfl rfl rfl rfl ⟨rfl, rfl, Nat.le_of_ble_eq_true rfl⟩ rfl rfl (c_need (dd := d) (hd := by omega) (hW := hWx) (g := 0) (ln := ln) (e_ln := show Gx 9 = ln from (fx_9)) (le := le) (e_le := show Ax 4 (ln).toNat = le from (congrFun (hFx.2 4 rfl) _).trans (e_le)) (at0 := at1) (e_at0 := show Gx 10 = at1 from (ex_at1)) (fk := fk1) (e_fk := show Gx 16 = fk1 from (ex_fk1)) (tk0 := tk1) (e_tk0 := show Gx 11 = tk1 from (ex_tk1))  (h_g := ⟨(by decide), (by decide)⟩)  (p_0 := by omega)) (fun o V' hq => ?_)
        obtain ⟨G57, A58, at2_59, tk2_60, fk2_61, rfl, rfl, hW62, hF63, e64, e65, e66, p67, p68, q69⟩ := hq
        have hF70 := Fr_tr hFx hF63 (Fr_sub (by decide)) (Fr_sub (by decide))
        have hP71 := Pf_f hPx hF63 (by decide)
        have bat2_59 : (0 : Int) ≤ at2_59 ∧ at2_59 ≤ 3002 := e64 ▸ hW62.1 10
        have ztk2_60 := tz_b tk2_60
        have btk2_60 : (0 : Int) ≤ tk2_60 ∧ tk2_60 ≤ 5 := e65 ▸ hW62.1 11
        have bfk2_61 : (0 : Int) ≤ fk2_61 ∧ fk2_61 ≤ 6 := e66 ▸ hW62.1 16
        refine .inl ⟨rfl, ?_⟩
        rcases q69 with ⟨a72, a73, a74, a75⟩ | ⟨a76, a77, a78, a79⟩
        · have _q : True := trivial
          refine jx_ld (pc' := 244) (l' := L) (st' := [.ref 66]) rfl (jl_aloadn gL_0) ?_
          refine jx_ar (pc' := 245) (st' := [.ref 66, .ref 66]) rfl rfl rfl rfl ?_
          refine jr_get (pc' := 248) (i := 15) (v := .int (i32 (op1))) rfl rfl (by decide) (rFv_eq (by decide) (show G57 15 = op1 from ((hF63.1 15 rfl).trans (ex_op1)))) rfl ?_
          refine jx_ar (pc' := 249) (st' := [.int (i32 (1)), .int (i32 (op1)), .ref 66]) rfl rfl rfl rfl ?_
          refine jx_sub (pc' := 250) rfl rfl ?_
          refine jr_put (pc' := 253) (i := 15) (z := (op1 - 1)) rfl rfl (by decide) rfl rfl rfl rfl rfl rfl ?_
          have hW80 : Wk (uG G57 15 ((op1 - 1))) A58 := Wk_g hW62 (show (-2147483648 : Int) ≤ (op1 - 1) by omega) (show (op1 - 1) ≤ (2147483647 : Int) by omega)
          have hF81 := Fr_g (z := (op1 - 1)) (i := 15) hF70 (by decide)
          refine jx_ld (pc' := 254) (l' := L) (st' := [.ref 66]) rfl (jl_aloadn gL_0) ?_
          refine jx_vr (pc' := 257) (as := []) (st := []) rfl rfl rfl rfl ⟨rfl, rfl, Nat.le_of_ble_eq_true rfl⟩ rfl rfl (c_endLine (dd := d) (hd := by omega) (hW := hW80)  (ln := ln) (e_ln := show (uG G57 15 ((op1 - 1))) 9 = ln from ((hF63.1 9 rfl).trans (fx_9))) (li := li) (e_li := show (uG G57 15 ((op1 - 1))) 3 = li from ((hF63.1 3 rfl).trans ((hFx.1 3 rfl).trans (e_li)))) (fk := fk2_61) (e_fk := show (uG G57 15 ((op1 - 1))) 16 = fk2_61 from (e66)) (tk0 := tk2_60) (e_tk0 := show (uG G57 15 ((op1 - 1))) 11 = tk2_60 from (e65))    (p_0 := by omega)) (fun o V' hq => ?_)
          obtain ⟨G82, A83, ln2_84, fk2_85, rfl, rfl, hW86, hF87, e88, e89, q90⟩ := hq
          have hF91 := Fr_tr hF81 hF87 (Fr_sub (by decide)) (Fr_sub (by decide))
          have hP92 := Pf_f hP71 hF87 (by decide)
          have bln2_84 : (0 : Int) ≤ ln2_84 ∧ ln2_84 ≤ 3000 := e88 ▸ hW86.1 9
          have bfk2_85 : (0 : Int) ≤ fk2_85 ∧ fk2_85 ≤ 6 := e89 ▸ hW86.1 16
          refine .inl ⟨rfl, ?_⟩
          rcases q90 with ⟨a93, a94, a95, a96, a97⟩ | ⟨a98, a99⟩
          · have _q : True := trivial
            exfalso
            omega
          · have _q : True := trivial
            refine jx_ld (pc' := 258) (l' := L) (st' := [.int (i32 (n))]) rfl (jl_iloadn gL_2) ?_
            refine jx_rt (v := some (.int (i32 (n)))) rfl rfl rfl rfl rfl rfl ?_
            exact ⟨_, _, _, at2_59, fk2_85, nd1, ln2_84, rfl, rfl, hW86, hF91, hP92, by omega, ((hF87.1 10 rfl).trans (e64)), (e89), ((hF87.1 31 rfl).trans ((hF63.1 31 rfl).trans (ex_nd1))), (e88), by omega, by omega, by omega, by omega, by omega, by first | exact Or.inl (⟨by omega, by omega, by omega⟩)⟩
        · have _q : True := trivial
          exfalso
          omega
    · have _q := h6
      exact absurd h6 (by omega)
  · have _q : True := trivial
    exfalso
    omega
set_option maxRecDepth 20000 in
set_option maxHeartbeats 4000000 in
theorem c_readCall_at_88 {X : jX} {d : Nat} {Vs : Nat → Prop} {sb pb : Int} {c0 c1 : jC} {G : Nat → Int} {A : Nat → Nat → Int} {T : jH} {s : Int} {ln le at0 fk op0 nd tk0 li kd nu mp pp : Int} (hd : 71 ≤ d + 1) (hW : Wk G A) (e_ln : G 9 = ln) (e_le : A 4 (ln).toNat = le) (e_at0 : G 10 = at0) (e_fk : G 16 = fk) (e_op0 : G 15 = op0) (e_nd : G 31 = nd) (e_tk0 : G 11 = tk0) (e_li : G 3 = li) (e_kd : A 7 (s).toNat = kd) (e_nu : A 12 (s).toNat = nu) (e_mp : A 30 (nu).toNat = mp) (e_pp : A 29 (nu).toNat = pp) (i_SV : SV Vs sb G A) (i_PQ : PQ Vs sb pb G A) (h_s : (-2147483648 : Int) ≤ s ∧ s ≤ 2147483647) (p_0 : 0 ≤ op0 ∧ op0 ≤ 8) (p_1 : fk = 0) (p_2 : nd ≤ 2 * at0 - tz tk0 + 42) (p_3 : at0 ≤ le) (p_4 : ln < li) (p_5 : 0 ≤ s ∧ s ≤ 201) (p_6 : 1 ≤ tk0) (p_7 : kd = 14) (p_8 : SY Vs sb (s)) : ∀ (m : Nat) (L : jL) (Gx : Nat → Int) (Ax : Nat → Nat → Int) (n many last kk at1 tk1 fk1 nd1 op1 : Int), (many - kk).toNat = m → jGet L 0 = some (.ref 66) → jGet L 1 = some (.int (i32 (s))) → jGet L 2 = some (.int (i32 n)) → jGet L 3 = some (.int (i32 many)) → jGet L 4 = some (.int (i32 last)) → jGet L 5 = some (.int (i32 kk)) → Wk Gx Ax → Fr [9, 10, 11, 12, 13, 14, 15, 16, 17, 18, 31] [15, 16, 17, 18, 19, 20, 21, 22, 24, 28] G A Gx Ax → Pf nd A Ax → Gx 10 = at1 → Gx 11 = tk1 → Gx 16 = fk1 → Gx 31 = nd1 → Gx 15 = op1 → Gx 9 = ln → ((-2147483648 : Int) ≤ n ∧ n ≤ 2147483647) → ((-2147483648 : Int) ≤ many ∧ many ≤ 2147483647) → ((-2147483648 : Int) ≤ last ∧ last ≤ 2147483647) → ((-2147483648 : Int) ≤ kk ∧ kk ≤ 2147483647) → (fk1 = 0) → (at0 ≤ at1) → (at1 ≤ le) → (nd ≤ n ∧ n ≤ 6998) → (nd ≤ nd1 ∧ n < nd1) → (0 ≤ many ∧ many ≤ 6) → (last = 0 ∨ n < last) → (last < nd1) → (0 ≤ last ∧ last ≤ 6998) → (0 ≤ kk ∧ kk ≤ many) → (op1 = op0 + 1) → (op1 ≤ 8) → (nd1 - nd ≤ (2 * at1 - tz tk1) - (2 * at0 - tz tk0) + 1) → (kk = many ∨ nd1 - nd ≤ (2 * at1 - tz tk1) - (2 * at0 - tz tk0)) → (many = mp) → (ND Ax (n) (25) (nu) (0) (0) (0) (Ax 21 (n).toNat) (0)) → (CA Ax Vs sb (n) (last) (kk) (pp) (n + 1) (nd1)) → wj X d jm305 (88, L, [], rV c0 c1 Gx Ax T) (fun o V' => ∃ (G' : Nat → Int) (A' : Nat → Nat → Int) (r : Int) (at2 : Int) (fk2 : Int) (nd2 : Int) (ln2 : Int), V' = rV c0 c1 G' A' T ∧ o = .inl (some (.int (i32 r))) ∧ Wk G' A' ∧ Fr [9, 10, 11, 12, 13, 14, 15, 16, 17, 18, 31] [15, 16, 17, 18, 19, 20, 21, 22, 24, 28] G A G' A' ∧ Pf nd A A' ∧ ((-2147483648 : Int) ≤ r ∧ r ≤ 2147483647) ∧ G' 10 = at2 ∧ G' 16 = fk2 ∧ G' 31 = nd2 ∧ G' 9 = ln2 ∧ (at0 ≤ at2) ∧ (at2 ≤ le) ∧ (nd ≤ nd2) ∧ (0 ≤ r) ∧ (r ≤ nd2) ∧ (((1 ≤ fk2) ∧ (ln2 = ln) ∧ (nd2 - nd ≤ 2 * at2 - 2 * at0 + 8)) ∨ ((fk2 = 0) ∧ (ln2 = ln + 1) ∧ (nd2 - nd ≤ 2 * at2 - (2 * at0 - tz tk0) + 0) ∧ (nd ≤ r) ∧ (r < nd2) ∧ (wL A' sb pb Vs (r) (nd) (nd2)) ∧ (NX A' (r))))) := by
  have hF0 : Fr [9, 10, 11, 12, 13, 14, 15, 16, 17, 18, 31] [15, 16, 17, 18, 19, 20, 21, 22, 24, 28] G A G A := Fr_rf
  have hP0 : Pf nd A A := Pf_rf
  have b_ln : (0 : Int) ≤ ln ∧ ln ≤ 3000 := e_ln ▸ hW.1 9
  have b_le : (0 : Int) ≤ le ∧ le ≤ 3000 := e_le ▸ hW.2 4 _
  have b_at0 : (0 : Int) ≤ at0 ∧ at0 ≤ 3002 := e_at0 ▸ hW.1 10
  have b_fk : (0 : Int) ≤ fk ∧ fk ≤ 6 := e_fk ▸ hW.1 16
  have b_op0 : (-2147483648 : Int) ≤ op0 ∧ op0 ≤ 2147483647 := e_op0 ▸ hW.1 15
  have b_nd : (0 : Int) ≤ nd ∧ nd ≤ 6999 := e_nd ▸ hW.1 31
  have z_tk0 := tz_f tk0
  have b_tk0 : (0 : Int) ≤ tk0 ∧ tk0 ≤ 5 := e_tk0 ▸ hW.1 11
  have b_li : (0 : Int) ≤ li ∧ li ≤ 3000 := e_li ▸ hW.1 3
  have b_kd : (0 : Int) ≤ kd ∧ kd ≤ 14 := e_kd ▸ hW.2 7 _
  have b_nu : (0 : Int) ≤ nu ∧ nu ≤ 24 := e_nu ▸ hW.2 12 _
  have b_mp : (0 : Int) ≤ mp ∧ mp ≤ 6 := e_mp ▸ hW.2 30 _
  have b_pp : (0 : Int) ≤ pp ∧ pp ≤ 202 := e_pp ▸ hW.2 29 _
  have pq := PQ_at i_PQ p_8 (e_kd.trans (by omega)) e_nu e_mp e_pp
  intro m
  induction m using Nat.strongRecOn with
  | ind m ih88 =>
    intro L Gx Ax n many last kk at1 tk1 fk1 nd1 op1 hm gL_0 gL_1 gL_2 gL_3 gL_4 gL_5 hWx hFx hPx ex_at1 ex_tk1 ex_fk1 ex_nd1 ex_op1 fx_9 rx_n rx_many rx_last rx_kk iv_0 iv_1 iv_2 iv_3 iv_4 iv_5 iv_6 iv_7 iv_8 iv_9 iv_10 iv_11 iv_12 iv_13 iv_14 iv_15 iv_16
    have b_at1 : (0 : Int) ≤ at1 ∧ at1 ≤ 3002 := ex_at1 ▸ hWx.1 10
    have z_tk1 := tz_f tk1
    have b_tk1 : (0 : Int) ≤ tk1 ∧ tk1 ≤ 5 := ex_tk1 ▸ hWx.1 11
    have b_fk1 : (0 : Int) ≤ fk1 ∧ fk1 ≤ 6 := ex_fk1 ▸ hWx.1 16
    have b_nd1 : (0 : Int) ≤ nd1 ∧ nd1 ≤ 6999 := ex_nd1 ▸ hWx.1 31
    have b_op1 : (-2147483648 : Int) ≤ op1 ∧ op1 ≤ 2147483647 := ex_op1 ▸ hWx.1 15
    refine jx_ld (pc' := 89) (l' := L) (st' := [.ref 66]) rfl (jl_aloadn gL_0) ?_
    refine jx_vr (pc' := 92) (as := []) (st := []) rfl rfl rfl rfl ⟨rfl, rfl, Nat.le_of_ble_eq_true rfl⟩ rfl rfl (c_bad (dd := d) (hd := by omega) (hW := hWx)  (fk := fk1) (e_fk := show Gx 16 = fk1 from (ex_fk1))    ) (fun o V' hq => ?_)
    obtain ⟨r100, rfl, rfl, b101, q102⟩ := hq
    refine .inr ⟨_, rfl, ?_⟩
    rcases q102 with ⟨rfl, a103⟩ | ⟨rfl, a104⟩
    · have _q : True := trivial
      exfalso
      omega
    · have _q : True := trivial
      refine jx_if_ne (pc' := 95) (tg := 233) rfl rfl rfl (by decide) (by decide) (fun h105 => ?_) (fun h105 => ?_)
      · have _q := h105
        exact absurd h105 (by omega)
      · have _q := h105
        refine jx_ld (pc' := 97) (l' := L) (st' := [.int (i32 (kk))]) rfl (jl_iload gL_5) ?_
        refine jx_ld (pc' := 98) (l' := L) (st' := [.int (i32 (many)), .int (i32 (kk))]) rfl (jl_iloadn gL_3) ?_
        refine jx_icmp_ge (pc' := 101) (tg := 233) rfl rfl rfl (Int.le_trans (by decide : (-2147483648 : Int) ≤ -2147483648) rx_kk.1) (Int.le_trans rx_kk.2 (by decide : (2147483647 : Int) ≤ 2147483647)) (Int.le_trans (by decide : (-2147483648 : Int) ≤ -2147483648) rx_many.1) (Int.le_trans rx_many.2 (by decide : (2147483647 : Int) ≤ 2147483647)) (fun h106 => ?_) (fun h106 => ?_)
        · have _q := h106
          refine jx_ld (pc' := 234) (l' := L) (st' := [.ref 66]) rfl (jl_aloadn gL_0) ?_
          refine jx_ld (pc' := 235) (l' := L) (st' := [.ref 66, .ref 66]) rfl (jl_aloadn gL_0) ?_
          refine jx_ar (pc' := 237) (st' := [.int (i32 (41)), .ref 66, .ref 66]) rfl rfl rfl rfl ?_
          have b107 : (-2147483648 : Int) ≤ Gx 13 ∧ Gx 13 ≤ 2147483647 := hWx.1 13
          refine jx_vr (pc' := 240) (as := [.int (i32 (41))]) (st := [.ref 66]) rfl rfl rfl rfl ⟨rfl, rfl, Nat.le_of_ble_eq_true rfl⟩ rfl rfl (c_is (dd := d) (hd := by omega) (hW := hWx) (k := 41) (tk := tk1) (e_tk := show Gx 11 = tk1 from (ex_tk1)) (tn := Gx 13) (e_tn := show Gx 13 = Gx 13 from rfl)  (h_k := ⟨(by decide), (by decide)⟩)  ) (fun o V' hq => ?_)
          obtain ⟨r108, rfl, rfl, b109, q110⟩ := hq
          refine .inr ⟨_, rfl, ?_⟩
          rcases q110 with ⟨rfl, a111, a112, a113⟩ | rfl
          · have _q : True := trivial
            refine jx_vr (pc' := 243) (as := [.int (i32 (1))]) (st := []) rfl rfl rfl rfl ⟨rfl, rfl, Nat.le_of_ble_eq_true rfl⟩ rfl rfl (c_need (dd := d) (hd := by omega) (hW := hWx) (g := 1) (ln := ln) (e_ln := show Gx 9 = ln from (fx_9)) (le := le) (e_le := show Ax 4 (ln).toNat = le from (congrFun (hFx.2 4 rfl) _).trans (e_le)) (at0 := at1) (e_at0 := show Gx 10 = at1 from (ex_at1)) (fk := fk1) (e_fk := show Gx 16 = fk1 from (ex_fk1)) (tk0 := tk1) (e_tk0 := show Gx 11 = tk1 from (ex_tk1))  (h_g := ⟨(by decide), (by decide)⟩)  (p_0 := by omega)) (fun o V' hq => ?_)
            obtain ⟨G114, A115, at2_116, tk2_117, fk2_118, rfl, rfl, hW119, hF120, e121, e122, e123, p124, p125, q126⟩ := hq
            have hF127 := Fr_tr hFx hF120 (Fr_sub (by decide)) (Fr_sub (by decide))
            have hP128 := Pf_f hPx hF120 (by decide)
            have sf129 : ND A115 (n) (25) (nu) (0) (0) (0) (Ax 21 (n).toNat) (0) := ND_ag (by omega) (Ag_fr hF120 (by decide)) iv_15
            have sf130 : CA A115 Vs sb (n) (last) (kk) (pp) (n + 1) (nd1) := CA_ag (by omega) (Sg_fr hF120 (by decide)) (Ag_fr hF120 (by decide)) (congrFun (hF120.2 21 rfl) _) iv_16
            have bat2_116 : (0 : Int) ≤ at2_116 ∧ at2_116 ≤ 3002 := e121 ▸ hW119.1 10
            have ztk2_117 := tz_b tk2_117
            have btk2_117 : (0 : Int) ≤ tk2_117 ∧ tk2_117 ≤ 5 := e122 ▸ hW119.1 11
            have bfk2_118 : (0 : Int) ≤ fk2_118 ∧ fk2_118 ≤ 6 := e123 ▸ hW119.1 16
            refine .inl ⟨rfl, ?_⟩
            rcases q126 with ⟨a131, a132, a133, a134⟩ | ⟨a135, a136, a137, a138⟩
            · have _q : True := trivial
              refine jx_ld (pc' := 244) (l' := L) (st' := [.ref 66]) rfl (jl_aloadn gL_0) ?_
              refine jx_ar (pc' := 245) (st' := [.ref 66, .ref 66]) rfl rfl rfl rfl ?_
              refine jr_get (pc' := 248) (i := 15) (v := .int (i32 (op1))) rfl rfl (by decide) (rFv_eq (by decide) (show G114 15 = op1 from ((hF120.1 15 rfl).trans (ex_op1)))) rfl ?_
              refine jx_ar (pc' := 249) (st' := [.int (i32 (1)), .int (i32 (op1)), .ref 66]) rfl rfl rfl rfl ?_
              refine jx_sub (pc' := 250) rfl rfl ?_
              refine jr_put (pc' := 253) (i := 15) (z := (op1 - 1)) rfl rfl (by decide) rfl rfl rfl rfl rfl rfl ?_
              have hW139 : Wk (uG G114 15 ((op1 - 1))) A115 := Wk_g hW119 (show (-2147483648 : Int) ≤ (op1 - 1) by omega) (show (op1 - 1) ≤ (2147483647 : Int) by omega)
              have hF140 := Fr_g (z := (op1 - 1)) (i := 15) hF127 (by decide)
              refine jx_ld (pc' := 254) (l' := L) (st' := [.ref 66]) rfl (jl_aloadn gL_0) ?_
              refine jx_vr (pc' := 257) (as := []) (st := []) rfl rfl rfl rfl ⟨rfl, rfl, Nat.le_of_ble_eq_true rfl⟩ rfl rfl (c_endLine (dd := d) (hd := by omega) (hW := hW139)  (ln := ln) (e_ln := show (uG G114 15 ((op1 - 1))) 9 = ln from ((hF120.1 9 rfl).trans (fx_9))) (li := li) (e_li := show (uG G114 15 ((op1 - 1))) 3 = li from ((hF120.1 3 rfl).trans ((hFx.1 3 rfl).trans (e_li)))) (fk := fk2_118) (e_fk := show (uG G114 15 ((op1 - 1))) 16 = fk2_118 from (e123)) (tk0 := tk2_117) (e_tk0 := show (uG G114 15 ((op1 - 1))) 11 = tk2_117 from (e122))    (p_0 := by omega)) (fun o V' hq => ?_)
              obtain ⟨G141, A142, ln2_143, fk2_144, rfl, rfl, hW145, hF146, e147, e148, q149⟩ := hq
              have hF150 := Fr_tr hF140 hF146 (Fr_sub (by decide)) (Fr_sub (by decide))
              have hP151 := Pf_f hP128 hF146 (by decide)
              have sf152 : ND A142 (n) (25) (nu) (0) (0) (0) (Ax 21 (n).toNat) (0) := ND_ag (by omega) (Ag_fr hF146 (by decide)) sf129
              have sf153 : CA A142 Vs sb (n) (last) (kk) (pp) (n + 1) (nd1) := CA_ag (by omega) (Sg_fr hF146 (by decide)) (Ag_fr hF146 (by decide)) (congrFun (hF146.2 21 rfl) _) sf130
              have bln2_143 : (0 : Int) ≤ ln2_143 ∧ ln2_143 ≤ 3000 := e147 ▸ hW145.1 9
              have bfk2_144 : (0 : Int) ≤ fk2_144 ∧ fk2_144 ≤ 6 := e148 ▸ hW145.1 16
              refine .inl ⟨rfl, ?_⟩
              rcases q149 with ⟨a154, a155, a156, a157, a158⟩ | ⟨a159, a160⟩
              · have _q : True := trivial
                exfalso
                omega
              · have _q : True := trivial
                refine jx_ld (pc' := 258) (l' := L) (st' := [.int (i32 (n))]) rfl (jl_iloadn gL_2) ?_
                refine jx_rt (v := some (.int (i32 (n)))) rfl rfl rfl rfl rfl rfl ?_
                exact ⟨_, _, _, at2_116, fk2_144, nd1, ln2_143, rfl, rfl, hW145, hF150, hP151, by omega, ((hF146.1 10 rfl).trans (e121)), (e148), ((hF146.1 31 rfl).trans ((hF120.1 31 rfl).trans (ex_nd1))), (e147), by omega, by omega, by omega, by omega, by omega, by first | exact Or.inl (⟨by omega, by omega, by omega⟩)⟩
            · have _q : True := trivial
              refine jx_ld (pc' := 244) (l' := L) (st' := [.ref 66]) rfl (jl_aloadn gL_0) ?_
              refine jx_ar (pc' := 245) (st' := [.ref 66, .ref 66]) rfl rfl rfl rfl ?_
              refine jr_get (pc' := 248) (i := 15) (v := .int (i32 (op1))) rfl rfl (by decide) (rFv_eq (by decide) (show G114 15 = op1 from ((hF120.1 15 rfl).trans (ex_op1)))) rfl ?_
              refine jx_ar (pc' := 249) (st' := [.int (i32 (1)), .int (i32 (op1)), .ref 66]) rfl rfl rfl rfl ?_
              refine jx_sub (pc' := 250) rfl rfl ?_
              refine jr_put (pc' := 253) (i := 15) (z := (op1 - 1)) rfl rfl (by decide) rfl rfl rfl rfl rfl rfl ?_
              have hW161 : Wk (uG G114 15 ((op1 - 1))) A115 := Wk_g hW119 (show (-2147483648 : Int) ≤ (op1 - 1) by omega) (show (op1 - 1) ≤ (2147483647 : Int) by omega)
              have hF162 := Fr_g (z := (op1 - 1)) (i := 15) hF127 (by decide)
              refine jx_ld (pc' := 254) (l' := L) (st' := [.ref 66]) rfl (jl_aloadn gL_0) ?_
              refine jx_vr (pc' := 257) (as := []) (st := []) rfl rfl rfl rfl ⟨rfl, rfl, Nat.le_of_ble_eq_true rfl⟩ rfl rfl (c_endLine (dd := d) (hd := by omega) (hW := hW161)  (ln := ln) (e_ln := show (uG G114 15 ((op1 - 1))) 9 = ln from ((hF120.1 9 rfl).trans (fx_9))) (li := li) (e_li := show (uG G114 15 ((op1 - 1))) 3 = li from ((hF120.1 3 rfl).trans ((hFx.1 3 rfl).trans (e_li)))) (fk := fk2_118) (e_fk := show (uG G114 15 ((op1 - 1))) 16 = fk2_118 from (e123)) (tk0 := tk2_117) (e_tk0 := show (uG G114 15 ((op1 - 1))) 11 = tk2_117 from (e122))    (p_0 := by omega)) (fun o V' hq => ?_)
              obtain ⟨G163, A164, ln2_165, fk2_166, rfl, rfl, hW167, hF168, e169, e170, q171⟩ := hq
              have hF172 := Fr_tr hF162 hF168 (Fr_sub (by decide)) (Fr_sub (by decide))
              have hP173 := Pf_f hP128 hF168 (by decide)
              have sf174 : ND A164 (n) (25) (nu) (0) (0) (0) (Ax 21 (n).toNat) (0) := ND_ag (by omega) (Ag_fr hF168 (by decide)) sf129
              have sf175 : CA A164 Vs sb (n) (last) (kk) (pp) (n + 1) (nd1) := CA_ag (by omega) (Sg_fr hF168 (by decide)) (Ag_fr hF168 (by decide)) (congrFun (hF168.2 21 rfl) _) sf130
              have bln2_165 : (0 : Int) ≤ ln2_165 ∧ ln2_165 ≤ 3000 := e169 ▸ hW167.1 9
              have bfk2_166 : (0 : Int) ≤ fk2_166 ∧ fk2_166 ≤ 6 := e170 ▸ hW167.1 16
              refine .inl ⟨rfl, ?_⟩
              rcases q171 with ⟨a176, a177, a178, a179, a180⟩ | ⟨a181, a182⟩
              · have _q : True := trivial
                refine jx_ld (pc' := 258) (l' := L) (st' := [.int (i32 (n))]) rfl (jl_iloadn gL_2) ?_
                refine jx_rt (v := some (.int (i32 (n)))) rfl rfl rfl rfl rfl rfl ?_
                exact ⟨_, _, _, at2_116, fk2_166, nd1, ln2_165, rfl, rfl, hW167, hF172, hP173, by omega, ((hF168.1 10 rfl).trans (e121)), (e170), ((hF168.1 31 rfl).trans ((hF120.1 31 rfl).trans (ex_nd1))), (e169), by omega, by omega, by omega, by omega, by omega, by first | exact Or.inr ((⟨by omega, by omega, by omega, by omega, by omega, (wL_call (last := last) sf174 (by omega) (by omega) (by omega) ((show A164 30 (nu).toNat = mp from (congrFun ((hF168.2 30 rfl).trans ((hF120.2 30 rfl).trans (hFx.2 30 rfl))) _).trans (e_mp)).trans (by omega : mp = kk)) ((show A164 29 (nu).toNat = pp from (congrFun ((hF168.2 29 rfl).trans ((hF120.2 29 rfl).trans (hFx.2 29 rfl))) _).trans (e_pp)).trans (by omega : pp = pp)) (CA_eq sf175 (by omega) (by omega) (by omega) (by omega) (by omega))), (NX_nd sf174)⟩))⟩
              · have _q : True := trivial
                refine jx_ld (pc' := 258) (l' := L) (st' := [.int (i32 (n))]) rfl (jl_iloadn gL_2) ?_
                refine jx_rt (v := some (.int (i32 (n)))) rfl rfl rfl rfl rfl rfl ?_
                exact ⟨_, _, _, at2_116, fk2_166, nd1, ln2_165, rfl, rfl, hW167, hF172, hP173, by omega, ((hF168.1 10 rfl).trans (e121)), (e170), ((hF168.1 31 rfl).trans ((hF120.1 31 rfl).trans (ex_nd1))), (e169), by omega, by omega, by omega, by omega, by omega, by first | exact Or.inl (⟨by omega, by omega, by omega⟩)⟩
          · have _q : True := trivial
            refine jx_vr (pc' := 243) (as := [.int (i32 (0))]) (st := []) rfl rfl rfl rfl ⟨rfl, rfl, Nat.le_of_ble_eq_true rfl⟩ rfl rfl (c_need (dd := d) (hd := by omega) (hW := hWx) (g := 0) (ln := ln) (e_ln := show Gx 9 = ln from (fx_9)) (le := le) (e_le := show Ax 4 (ln).toNat = le from (congrFun (hFx.2 4 rfl) _).trans (e_le)) (at0 := at1) (e_at0 := show Gx 10 = at1 from (ex_at1)) (fk := fk1) (e_fk := show Gx 16 = fk1 from (ex_fk1)) (tk0 := tk1) (e_tk0 := show Gx 11 = tk1 from (ex_tk1))  (h_g := ⟨(by decide), (by decide)⟩)  (p_0 := by omega)) (fun o V' hq => ?_)
            obtain ⟨G183, A184, at2_185, tk2_186, fk2_187, rfl, rfl, hW188, hF189, e190, e191, e192, p193, p194, q195⟩ := hq
            have hF196 := Fr_tr hFx hF189 (Fr_sub (by decide)) (Fr_sub (by decide))
            have hP197 := Pf_f hPx hF189 (by decide)
            have sf198 : ND A184 (n) (25) (nu) (0) (0) (0) (Ax 21 (n).toNat) (0) := ND_ag (by omega) (Ag_fr hF189 (by decide)) iv_15
            have sf199 : CA A184 Vs sb (n) (last) (kk) (pp) (n + 1) (nd1) := CA_ag (by omega) (Sg_fr hF189 (by decide)) (Ag_fr hF189 (by decide)) (congrFun (hF189.2 21 rfl) _) iv_16
            have bat2_185 : (0 : Int) ≤ at2_185 ∧ at2_185 ≤ 3002 := e190 ▸ hW188.1 10
            have ztk2_186 := tz_b tk2_186
            have btk2_186 : (0 : Int) ≤ tk2_186 ∧ tk2_186 ≤ 5 := e191 ▸ hW188.1 11
            have bfk2_187 : (0 : Int) ≤ fk2_187 ∧ fk2_187 ≤ 6 := e192 ▸ hW188.1 16
            refine .inl ⟨rfl, ?_⟩
            rcases q195 with ⟨a200, a201, a202, a203⟩ | ⟨a204, a205, a206, a207⟩
            · have _q : True := trivial
              refine jx_ld (pc' := 244) (l' := L) (st' := [.ref 66]) rfl (jl_aloadn gL_0) ?_
              refine jx_ar (pc' := 245) (st' := [.ref 66, .ref 66]) rfl rfl rfl rfl ?_
              refine jr_get (pc' := 248) (i := 15) (v := .int (i32 (op1))) rfl rfl (by decide) (rFv_eq (by decide) (show G183 15 = op1 from ((hF189.1 15 rfl).trans (ex_op1)))) rfl ?_
              refine jx_ar (pc' := 249) (st' := [.int (i32 (1)), .int (i32 (op1)), .ref 66]) rfl rfl rfl rfl ?_
              refine jx_sub (pc' := 250) rfl rfl ?_
              refine jr_put (pc' := 253) (i := 15) (z := (op1 - 1)) rfl rfl (by decide) rfl rfl rfl rfl rfl rfl ?_
              have hW208 : Wk (uG G183 15 ((op1 - 1))) A184 := Wk_g hW188 (show (-2147483648 : Int) ≤ (op1 - 1) by omega) (show (op1 - 1) ≤ (2147483647 : Int) by omega)
              have hF209 := Fr_g (z := (op1 - 1)) (i := 15) hF196 (by decide)
              refine jx_ld (pc' := 254) (l' := L) (st' := [.ref 66]) rfl (jl_aloadn gL_0) ?_
              refine jx_vr (pc' := 257) (as := []) (st := []) rfl rfl rfl rfl ⟨rfl, rfl, Nat.le_of_ble_eq_true rfl⟩ rfl rfl (c_endLine (dd := d) (hd := by omega) (hW := hW208)  (ln := ln) (e_ln := show (uG G183 15 ((op1 - 1))) 9 = ln from ((hF189.1 9 rfl).trans (fx_9))) (li := li) (e_li := show (uG G183 15 ((op1 - 1))) 3 = li from ((hF189.1 3 rfl).trans ((hFx.1 3 rfl).trans (e_li)))) (fk := fk2_187) (e_fk := show (uG G183 15 ((op1 - 1))) 16 = fk2_187 from (e192)) (tk0 := tk2_186) (e_tk0 := show (uG G183 15 ((op1 - 1))) 11 = tk2_186 from (e191))    (p_0 := by omega)) (fun o V' hq => ?_)
              obtain ⟨G210, A211, ln2_212, fk2_213, rfl, rfl, hW214, hF215, e216, e217, q218⟩ := hq
              have hF219 := Fr_tr hF209 hF215 (Fr_sub (by decide)) (Fr_sub (by decide))
              have hP220 := Pf_f hP197 hF215 (by decide)
              have sf221 : ND A211 (n) (25) (nu) (0) (0) (0) (Ax 21 (n).toNat) (0) := ND_ag (by omega) (Ag_fr hF215 (by decide)) sf198
              have sf222 : CA A211 Vs sb (n) (last) (kk) (pp) (n + 1) (nd1) := CA_ag (by omega) (Sg_fr hF215 (by decide)) (Ag_fr hF215 (by decide)) (congrFun (hF215.2 21 rfl) _) sf199
              have bln2_212 : (0 : Int) ≤ ln2_212 ∧ ln2_212 ≤ 3000 := e216 ▸ hW214.1 9
              have bfk2_213 : (0 : Int) ≤ fk2_213 ∧ fk2_213 ≤ 6 := e217 ▸ hW214.1 16
              refine .inl ⟨rfl, ?_⟩
              rcases q218 with ⟨a223, a224, a225, a226, a227⟩ | ⟨a228, a229⟩
              · have _q : True := trivial
                exfalso
                omega
              · have _q : True := trivial
                refine jx_ld (pc' := 258) (l' := L) (st' := [.int (i32 (n))]) rfl (jl_iloadn gL_2) ?_
                refine jx_rt (v := some (.int (i32 (n)))) rfl rfl rfl rfl rfl rfl ?_
                exact ⟨_, _, _, at2_185, fk2_213, nd1, ln2_212, rfl, rfl, hW214, hF219, hP220, by omega, ((hF215.1 10 rfl).trans (e190)), (e217), ((hF215.1 31 rfl).trans ((hF189.1 31 rfl).trans (ex_nd1))), (e216), by omega, by omega, by omega, by omega, by omega, by first | exact Or.inl (⟨by omega, by omega, by omega⟩)⟩
            · have _q : True := trivial
              exfalso
              omega
        · have _q := h106
          have pk := PQ_k i_PQ p_8 (e_kd.trans (by omega)) e_nu e_mp e_pp (show 0 ≤ kk by omega) (by omega)
          refine jx_ld (pc' := 102) (l' := L) (st' := [.ref 66]) rfl (jl_aloadn gL_0) ?_
          refine jx_ld (pc' := 103) (l' := L) (st' := [.ref 66, .ref 66]) rfl (jl_aloadn gL_0) ?_
          refine jr_get (pc' := 106) (i := 47) (v := .ref 96) rfl rfl (by decide) rfl rfl ?_
          refine jx_ld (pc' := 107) (l' := L) (st' := [.ref 66, .ref 96, .ref 66]) rfl (jl_aloadn gL_0) ?_
          refine jr_get (pc' := 110) (i := 26) (v := .ref 79) rfl rfl (by decide) rfl rfl ?_
          refine jx_ld (pc' := 111) (l' := L) (st' := [.int (i32 (s)), .ref 79, .ref 96, .ref 66]) rfl (jl_iloadn gL_1) ?_
          refine jr_ldv (pc' := 112) (i := 12) (m := 260) (z := s) (y := nu) rfl (by decide) rfl (by decide) (by omega) (by omega) rfl (show Ax 12 (s).toNat = nu from (congrFun (hFx.2 12 rfl) _).trans (e_nu)) ?_
          refine jr_ldv (pc' := 113) (i := 29) (m := 25) (z := nu) (y := pp) rfl (by decide) rfl (by decide) (Int.le_trans (by decide : (0 : Int) ≤ 0) b_nu.1) (Int.lt_of_le_of_lt b_nu.2 (by decide : (24 : Int) < ((25 : Nat) : Int))) rfl (show Ax 29 (nu).toNat = pp from (congrFun (hFx.2 29 rfl) _).trans (e_pp)) ?_
          refine jx_ld (pc' := 115) (l' := L) (st' := [.int (i32 (kk)), .int (i32 (pp)), .ref 66]) rfl (jl_iload gL_5) ?_
          refine jx_add (pc' := 116) rfl rfl ?_
          have b230 : (0 : Int) ≤ A 7 ((pp + kk)).toNat ∧ A 7 ((pp + kk)).toNat ≤ 14 := hW.2 7 _
          have b231 : (-2147483648 : Int) ≤ A 8 ((pp + kk)).toNat ∧ A 8 ((pp + kk)).toNat ≤ 2147483647 := hW.2 8 _
          refine jx_vr (pc' := 119) (as := [.int (i32 ((pp + kk)))]) (st := []) rfl rfl rfl rfl ⟨rfl, rfl, Nat.le_of_ble_eq_true rfl⟩ rfl rfl (c_readArgument (dd := d) (hd := by omega) (hW := hWx) (pa := (pp + kk)) (ln := ln) (e_ln := show Gx 9 = ln from (fx_9)) (le := le) (e_le := show Ax 4 (ln).toNat = le from (congrFun (hFx.2 4 rfl) _).trans (e_le)) (at0 := at1) (e_at0 := show Gx 10 = at1 from (ex_at1)) (fk := fk1) (e_fk := show Gx 16 = fk1 from (ex_fk1)) (op0 := op1) (e_op0 := show Gx 15 = op1 from (ex_op1)) (nd := nd1) (e_nd := show Gx 31 = nd1 from (ex_nd1)) (tk0 := tk1) (e_tk0 := show Gx 11 = tk1 from (ex_tk1)) (kp := A 7 ((pp + kk)).toNat) (e_kp := show Ax 7 ((pp + kk)).toNat = A 7 ((pp + kk)).toNat from (congrFun (hFx.2 7 rfl) _)) (zp := A 8 ((pp + kk)).toNat) (e_zp := show Ax 8 ((pp + kk)).toNat = A 8 ((pp + kk)).toNat from (congrFun (hFx.2 8 rfl) _)) (i_SV := (SV_ext ((hFx.1 29 rfl)) ((hFx.2 14 rfl)) i_SV)) (h_pa := ⟨(by omega), (by omega)⟩)  (p_0 := by omega) (p_1 := by omega) (p_2 := by omega) (p_3 := by omega) (p_4 := by omega) (p_5 := by omega) (p_6 := by omega) (p_7 := by omega) (p_8 := by omega) (p_9 := by omega)) (fun o V' hq => ?_)
          obtain ⟨G232, A233, r234, at2_235, fk2_236, op2_237, nd2_238, tk2_239, rfl, rfl, hW240, hF241, hQ242, b243, e244, e245, e246, e247, e248, p249, p250, p251, p252, p253, p254, q255⟩ := hq
          have hF256 := Fr_tr hFx hF241 (Fr_sub (by decide)) (Fr_sub (by decide))
          have hP257 := Pf_tr hPx hQ242 (by omega)
          have sf258 : ND A233 (n) (25) (nu) (0) (0) (0) (Ax 21 (n).toNat) (0) := ND_ag (by omega) (Ag_pf hQ242 (by omega)) iv_15
          have sf259 : CA A233 Vs sb (n) (last) (kk) (pp) (n + 1) (nd1) := CA_ag (by omega) (Sg_fr hF241 (by decide)) (Ag_pf hQ242 (by omega)) (hQ242 21 _ rfl (by omega)) iv_16
          have bat2_235 : (0 : Int) ≤ at2_235 ∧ at2_235 ≤ 3002 := e244 ▸ hW240.1 10
          have bfk2_236 : (0 : Int) ≤ fk2_236 ∧ fk2_236 ≤ 6 := e245 ▸ hW240.1 16
          have bop2_237 : (-2147483648 : Int) ≤ op2_237 ∧ op2_237 ≤ 2147483647 := e246 ▸ hW240.1 15
          have bnd2_238 : (0 : Int) ≤ nd2_238 ∧ nd2_238 ≤ 6999 := e247 ▸ hW240.1 31
          have ztk2_239 := tz_b tk2_239
          have btk2_239 : (0 : Int) ≤ tk2_239 ∧ tk2_239 ≤ 5 := e248 ▸ hW240.1 11
          refine .inr ⟨_, rfl, ?_⟩
          rcases q255 with ⟨a260, a261, a262⟩ | ⟨a263, a264, a265, a266, a267, a268, a269⟩
          · have _q : True := trivial
            refine jx_ld (pc' := 121) (l' := jSto1 L 6 (.int (i32 (r234)))) (st' := []) rfl rfl ?_
            obtain ⟨L270, eL270⟩ : ∃ q, q = jSto1 L 6 (.int (i32 (r234))) := ⟨_, rfl⟩
            rw [← eL270]
            have gL270_0 : jGet L270 0 = some (.ref 66) := eL270 ▸ jg_ne (by decide) gL_0 rfl
            have gL270_1 : jGet L270 1 = some (.int (i32 (s))) := eL270 ▸ jg_ne (by decide) gL_1 rfl
            have gL270_2 : jGet L270 2 = some (.int (i32 (n))) := eL270 ▸ jg_ne (by decide) gL_2 rfl
            have gL270_3 : jGet L270 3 = some (.int (i32 (many))) := eL270 ▸ jg_ne (by decide) gL_3 rfl
            have gL270_4 : jGet L270 4 = some (.int (i32 (last))) := eL270 ▸ jg_ne (by decide) gL_4 rfl
            have gL270_5 : jGet L270 5 = some (.int (i32 (kk))) := eL270 ▸ jg_ne (by decide) gL_5 rfl
            have gL270_6 : jGet L270 6 = some (.int (i32 (r234))) := eL270 ▸ jg_eq
            refine jx_ld (pc' := 122) (l' := L270) (st' := [.ref 66]) rfl (jl_aloadn gL270_0) ?_
            refine jx_vr (pc' := 125) (as := []) (st := []) rfl rfl rfl rfl ⟨rfl, rfl, Nat.le_of_ble_eq_true rfl⟩ rfl rfl (c_bad (dd := d) (hd := by omega) (hW := hW240)  (fk := fk2_236) (e_fk := show G232 16 = fk2_236 from (e245))    ) (fun o V' hq => ?_)
            obtain ⟨r271, rfl, rfl, b272, q273⟩ := hq
            refine .inr ⟨_, rfl, ?_⟩
            rcases q273 with ⟨rfl, a274⟩ | ⟨rfl, a275⟩
            · have _q : True := trivial
              refine jx_if_eq (pc' := 128) (tg := 130) rfl rfl rfl (by decide) (by decide) (fun h276 => ?_) (fun h276 => ?_)
              · have _q := h276
                exact absurd h276 (by omega)
              · have _q := h276
                refine jx_ar (pc' := 129) (st' := [.int (i32 (0))]) rfl rfl rfl rfl ?_
                refine jx_rt (v := some (.int (i32 (0)))) rfl rfl rfl rfl rfl rfl ?_
                exact ⟨_, _, _, at2_235, fk2_236, nd2_238, ln, rfl, rfl, hW240, hF256, hP257, by omega, (e244), (e245), (e247), ((hF241.1 9 rfl).trans (fx_9)), by omega, by omega, by omega, by omega, by omega, by first | exact Or.inl (⟨by omega, by omega, by omega⟩)⟩
            · have _q : True := trivial
              exfalso
              omega
          · have _q : True := trivial
            refine jx_ld (pc' := 121) (l' := jSto1 L 6 (.int (i32 (r234)))) (st' := []) rfl rfl ?_
            obtain ⟨L277, eL277⟩ : ∃ q, q = jSto1 L 6 (.int (i32 (r234))) := ⟨_, rfl⟩
            rw [← eL277]
            have gL277_0 : jGet L277 0 = some (.ref 66) := eL277 ▸ jg_ne (by decide) gL_0 rfl
            have gL277_1 : jGet L277 1 = some (.int (i32 (s))) := eL277 ▸ jg_ne (by decide) gL_1 rfl
            have gL277_2 : jGet L277 2 = some (.int (i32 (n))) := eL277 ▸ jg_ne (by decide) gL_2 rfl
            have gL277_3 : jGet L277 3 = some (.int (i32 (many))) := eL277 ▸ jg_ne (by decide) gL_3 rfl
            have gL277_4 : jGet L277 4 = some (.int (i32 (last))) := eL277 ▸ jg_ne (by decide) gL_4 rfl
            have gL277_5 : jGet L277 5 = some (.int (i32 (kk))) := eL277 ▸ jg_ne (by decide) gL_5 rfl
            have gL277_6 : jGet L277 6 = some (.int (i32 (r234))) := eL277 ▸ jg_eq
            refine jx_ld (pc' := 122) (l' := L277) (st' := [.ref 66]) rfl (jl_aloadn gL277_0) ?_
            refine jx_vr (pc' := 125) (as := []) (st := []) rfl rfl rfl rfl ⟨rfl, rfl, Nat.le_of_ble_eq_true rfl⟩ rfl rfl (c_bad (dd := d) (hd := by omega) (hW := hW240)  (fk := fk2_236) (e_fk := show G232 16 = fk2_236 from (e245))    ) (fun o V' hq => ?_)
            obtain ⟨r278, rfl, rfl, b279, q280⟩ := hq
            refine .inr ⟨_, rfl, ?_⟩
            rcases q280 with ⟨rfl, a281⟩ | ⟨rfl, a282⟩
            · have _q : True := trivial
              exfalso
              omega
            · have _q : True := trivial
              refine jx_if_eq (pc' := 128) (tg := 130) rfl rfl rfl (by decide) (by decide) (fun h283 => ?_) (fun h283 => ?_)
              · have _q := h283
                refine jx_ld (pc' := 132) (l' := L277) (st' := [.int (i32 (last))]) rfl (jl_iload gL277_4) ?_
                refine jx_if_ne (pc' := 135) (tg := 146) rfl rfl rfl (Int.le_trans (by decide : (-2147483648 : Int) ≤ -2147483648) rx_last.1) (Int.le_trans rx_last.2 (by decide : (2147483647 : Int) ≤ 2147483647)) (fun h284 => ?_) (fun h284 => ?_)
                · have _q := h284
                  refine jx_ld (pc' := 147) (l' := L277) (st' := [.ref 66]) rfl (jl_aloadn gL277_0) ?_
                  refine jr_get (pc' := 150) (i := 39) (v := .ref 89) rfl rfl (by decide) rfl rfl ?_
                  refine jx_ld (pc' := 152) (l' := L277) (st' := [.int (i32 (last)), .ref 89]) rfl (jl_iload gL277_4) ?_
                  refine jx_ld (pc' := 154) (l' := L277) (st' := [.int (i32 (r234)), .int (i32 (last)), .ref 89]) rfl (jl_iload gL277_6) ?_
                  refine jr_st (pc' := 155) (i := 22) (m := 7000) (z := last) (y := r234) rfl (by decide) rfl (by decide) (by omega) (by omega) rfl ?_
                  have hW286 : Wk G232 (uA A233 22 (last).toNat (r234)) := Wk_a hW240 (show (-2147483648 : Int) ≤ r234 by omega) (show r234 ≤ (2147483647 : Int) by omega)
                  have hF287 := Fr_a (z := r234) (k := 22) (n := (last).toNat) hF256 (by decide)
                  obtain ⟨A285, eA285⟩ : ∃ q, q = uA A233 22 (last).toNat (r234) := ⟨_, rfl⟩
                  rw [← eA285]
                  rw [← eA285] at hW286 hF287
                  have q288 : A285 22 (last).toNat = r234 := by rw [eA285]; exact uA_eq
                  have hP289 : Pf nd A A285 := eA285 ▸ Pf_a hP257 (z := last) (by omega) (by omega)
                  have sf290 : ND A285 (n) (25) (nu) (0) (0) (0) (Ax 21 (n).toNat) (0) := ND_ag (by omega) (Ag_st eA285 (by omega) (by omega)) sf258
                  have sf291 : CA A285 Vs sb (n) (r234) ((kk + 1)) (pp) (n + 1) (nd2_238) := CA_two eA285 (by omega) (by omega) (by omega) a268 a269 sf259
                  have sf292 : wA A285 Vs sb (pp + kk) (r234) (nd1) (nd2_238) := wA_ag (by omega) (Sg_ne eA285 rfl) (Ax_ag (Ag_st eA285 (by omega) (by omega))) a268
                  have sf293 : NX A285 (r234) := NX_ag (by omega) (Ag_st eA285 (by omega) (by omega)) a269
                  refine jx_ld (pc' := 157) (l' := L277) (st' := [.int (i32 (r234))]) rfl (jl_iload gL277_6) ?_
                  refine jx_ld (pc' := 159) (l' := jSto1 L277 4 (.int (i32 (r234)))) (st' := []) rfl rfl ?_
                  obtain ⟨L294, eL294⟩ : ∃ q, q = jSto1 L277 4 (.int (i32 (r234))) := ⟨_, rfl⟩
                  rw [← eL294]
                  have gL294_0 : jGet L294 0 = some (.ref 66) := eL294 ▸ jg_ne (by decide) gL277_0 rfl
                  have gL294_1 : jGet L294 1 = some (.int (i32 (s))) := eL294 ▸ jg_ne (by decide) gL277_1 rfl
                  have gL294_2 : jGet L294 2 = some (.int (i32 (n))) := eL294 ▸ jg_ne (by decide) gL277_2 rfl
                  have gL294_3 : jGet L294 3 = some (.int (i32 (many))) := eL294 ▸ jg_ne (by decide) gL277_3 rfl
                  have gL294_5 : jGet L294 5 = some (.int (i32 (kk))) := eL294 ▸ jg_ne (by decide) gL277_5 rfl
                  have gL294_6 : jGet L294 6 = some (.int (i32 (r234))) := eL294 ▸ jg_ne (by decide) gL277_6 rfl
                  have gL294_4 : jGet L294 4 = some (.int (i32 (r234))) := eL294 ▸ jg_eq
                  refine jx_inc (pc' := 162) (l' := jSto1 L294 5 (.int (i32 ((kk + (1)))))) (x := kk) rfl gL294_5 (by decide) rfl rfl ?_
                  obtain ⟨L295, eL295⟩ : ∃ q, q = jSto1 L294 5 (.int (i32 ((kk + (1))))) := ⟨_, rfl⟩
                  rw [← eL295]
                  have gL295_0 : jGet L295 0 = some (.ref 66) := eL295 ▸ jg_ne (by decide) gL294_0 rfl
                  have gL295_1 : jGet L295 1 = some (.int (i32 (s))) := eL295 ▸ jg_ne (by decide) gL294_1 rfl
                  have gL295_2 : jGet L295 2 = some (.int (i32 (n))) := eL295 ▸ jg_ne (by decide) gL294_2 rfl
                  have gL295_3 : jGet L295 3 = some (.int (i32 (many))) := eL295 ▸ jg_ne (by decide) gL294_3 rfl
                  have gL295_6 : jGet L295 6 = some (.int (i32 (r234))) := eL295 ▸ jg_ne (by decide) gL294_6 rfl
                  have gL295_4 : jGet L295 4 = some (.int (i32 (r234))) := eL295 ▸ jg_ne (by decide) gL294_4 rfl
                  have gL295_5 : jGet L295 5 = some (.int (i32 ((kk + (1))))) := eL295 ▸ jg_eq
                  refine jx_ld (pc' := 163) (l' := L295) (st' := [.ref 66]) rfl (jl_aloadn gL295_0) ?_
                  refine jx_ar (pc' := 165) (st' := [.int (i32 (44)), .ref 66]) rfl rfl rfl rfl ?_
                  have b296 : (-2147483648 : Int) ≤ G232 13 ∧ G232 13 ≤ 2147483647 := hW240.1 13
                  refine jx_vr (pc' := 168) (as := [.int (i32 (44))]) (st := []) rfl rfl rfl rfl ⟨rfl, rfl, Nat.le_of_ble_eq_true rfl⟩ rfl rfl (c_is (dd := d) (hd := by omega) (hW := hW286) (k := 44) (tk := tk2_239) (e_tk := show G232 11 = tk2_239 from (e248)) (tn := G232 13) (e_tn := show G232 13 = G232 13 from rfl)  (h_k := ⟨(by decide), (by decide)⟩)  ) (fun o V' hq => ?_)
                  obtain ⟨r297, rfl, rfl, b298, q299⟩ := hq
                  refine .inr ⟨_, rfl, ?_⟩
                  rcases q299 with ⟨rfl, a300, a301, a302⟩ | rfl
                  · have _q : True := trivial
                    refine jx_if_eq (pc' := 171) (tg := 194) rfl rfl rfl (by decide) (by decide) (fun h303 => ?_) (fun h303 => ?_)
                    · have _q := h303
                      exact absurd h303 (by omega)
                    · have _q := h303
                      refine jx_ld (pc' := 173) (l' := L295) (st' := [.int (i32 ((kk + (1))))]) rfl (jl_iload gL295_5) ?_
                      refine jx_ld (pc' := 174) (l' := L295) (st' := [.int (i32 (many)), .int (i32 ((kk + (1))))]) rfl (jl_iloadn gL295_3) ?_
                      refine jx_icmp_ne (pc' := 177) (tg := 186) rfl rfl rfl (by omega) (by omega) (Int.le_trans (by decide : (-2147483648 : Int) ≤ -2147483648) rx_many.1) (Int.le_trans rx_many.2 (by decide : (2147483647 : Int) ≤ 2147483647)) (fun h304 => ?_) (fun h304 => ?_)
                      · have _q := h304
                        refine jx_ld (pc' := 187) (l' := L295) (st' := [.ref 66]) rfl (jl_aloadn gL295_0) ?_
                        refine jx_ar (pc' := 188) (st' := [.int (i32 (1)), .ref 66]) rfl rfl rfl rfl ?_
                        refine jx_vr (pc' := 191) (as := [.int (i32 (1))]) (st := []) rfl rfl rfl rfl ⟨rfl, rfl, Nat.le_of_ble_eq_true rfl⟩ rfl rfl (c_need (dd := d) (hd := by omega) (hW := hW286) (g := 1) (ln := ln) (e_ln := show G232 9 = ln from ((hF241.1 9 rfl).trans (fx_9))) (le := le) (e_le := show A285 4 (ln).toNat = le from (congrFun (((congrFun eA285 4).trans (uA_ne (by decide))).trans ((hF241.2 4 rfl).trans (hFx.2 4 rfl))) _).trans (e_le)) (at0 := at2_235) (e_at0 := show G232 10 = at2_235 from (e244)) (fk := fk2_236) (e_fk := show G232 16 = fk2_236 from (e245)) (tk0 := tk2_239) (e_tk0 := show G232 11 = tk2_239 from (e248))  (h_g := ⟨(by decide), (by decide)⟩)  (p_0 := by omega)) (fun o V' hq => ?_)
                        obtain ⟨G305, A306, at2_307, tk2_308, fk2_309, rfl, rfl, hW310, hF311, e312, e313, e314, p315, p316, q317⟩ := hq
                        have hF318 := Fr_tr hF287 hF311 (Fr_sub (by decide)) (Fr_sub (by decide))
                        have hP319 := Pf_f hP289 hF311 (by decide)
                        have sf320 : ND A306 (n) (25) (nu) (0) (0) (0) (Ax 21 (n).toNat) (0) := ND_ag (by omega) (Ag_fr hF311 (by decide)) sf290
                        have sf321 : CA A306 Vs sb (n) (r234) ((kk + 1)) (pp) (n + 1) (nd2_238) := CA_ag (by omega) (Sg_fr hF311 (by decide)) (Ag_fr hF311 (by decide)) (congrFun (hF311.2 21 rfl) _) sf291
                        have sf322 : wA A306 Vs sb (pp + kk) (r234) (nd1) (nd2_238) := wA_ag (by omega) (Sg_fr hF311 (by decide)) (Ax_ag (Ag_fr hF311 (by decide))) sf292
                        have sf323 : NX A306 (r234) := NX_ag (by omega) (Ag_fr hF311 (by decide)) sf293
                        have bat2_307 : (0 : Int) ≤ at2_307 ∧ at2_307 ≤ 3002 := e312 ▸ hW310.1 10
                        have ztk2_308 := tz_b tk2_308
                        have btk2_308 : (0 : Int) ≤ tk2_308 ∧ tk2_308 ≤ 5 := e313 ▸ hW310.1 11
                        have bfk2_309 : (0 : Int) ≤ fk2_309 ∧ fk2_309 ≤ 6 := e314 ▸ hW310.1 16
                        refine .inl ⟨rfl, ?_⟩
                        rcases q317 with ⟨a324, a325, a326, a327⟩ | ⟨a328, a329, a330, a331⟩
                        · have _q : True := trivial
                          refine jx_go (tg := 230) rfl rfl ?_
                          refine jx_go (tg := 88) rfl rfl ?_
                          have z332 := tz_f (tk2_308)
                          exact c_readCall_at_88p (X := X) (d := d) (Vs := Vs) (sb := sb) (pb := pb) (c0 := c0) (c1 := c1) (G := G) (A := A) (T := T) (s := s) (ln := ln) (le := le) (at0 := at0) (fk := fk) (op0 := op0) (nd := nd) (tk0 := tk0) (li := li) (kd := kd) (nu := nu) (mp := mp) (pp := pp) (hd := hd) (hW := hW) (e_ln := e_ln) (e_le := e_le) (e_at0 := e_at0) (e_fk := e_fk) (e_op0 := e_op0) (e_nd := e_nd) (e_tk0 := e_tk0) (e_li := e_li) (e_kd := e_kd) (e_nu := e_nu) (e_mp := e_mp) (e_pp := e_pp) (i_SV := i_SV) (i_PQ := i_PQ) (h_s := h_s) (p_0 := p_0) (p_1 := p_1) (p_2 := p_2) (p_3 := p_3) (p_4 := p_4) (p_5 := p_5) (p_6 := p_6) (p_7 := p_7) (p_8 := p_8) L295 G305 A306 (n) (many) (r234) ((kk + (1))) (at2_307) (tk2_308) (fk2_309) (nd2_238) (op2_237) gL295_0 gL295_1 gL295_2 gL295_3 gL295_4 gL295_5 hW310 hF318 hP319 ((e312)) ((e313)) ((e314)) (((hF311.1 31 rfl).trans (e247))) (((hF311.1 15 rfl).trans (e246))) (((hF311.1 9 rfl).trans ((hF241.1 9 rfl).trans (fx_9)))) (by omega) (by omega) (by omega) (by omega) (by omega) (by omega) (by omega) (by omega) (by omega) (by omega) (by omega)
                        · have _q : True := trivial
                          refine jx_go (tg := 230) rfl rfl ?_
                          refine jx_go (tg := 88) rfl rfl ?_
                          have z333 := tz_f (tk2_308)
                          exact ih88 _ (by omega) L295 G305 A306 (n) (many) (r234) ((kk + (1))) (at2_307) (tk2_308) (fk2_309) (nd2_238) (op2_237) rfl gL295_0 gL295_1 gL295_2 gL295_3 gL295_4 gL295_5 hW310 hF318 hP319 ((e312)) ((e313)) ((e314)) (((hF311.1 31 rfl).trans (e247))) (((hF311.1 15 rfl).trans (e246))) (((hF311.1 9 rfl).trans ((hF241.1 9 rfl).trans (fx_9)))) (by omega) (by omega) (by omega) (by omega) (by omega) (by omega) (by omega) (by omega) (by omega) (by omega) (by omega) (by omega) (by omega) (by omega) (by omega) (by omega) (by omega) (by omega) (by omega) ((ND_sf sf320)) ((CA_eq sf321 (by omega) (by omega) (by omega) (by omega) (by omega)))
                      · have _q := h304
                        refine jx_ld (pc' := 178) (l' := L295) (st' := [.ref 66]) rfl (jl_aloadn gL295_0) ?_
                        refine jx_ar (pc' := 179) (st' := [.int (i32 (4)), .ref 66]) rfl rfl rfl rfl ?_
                        refine jx_ld (pc' := 180) (l' := L295) (st' := [.ref 66, .int (i32 (4)), .ref 66]) rfl (jl_aloadn gL295_0) ?_
                        have b334 : (-3000 : Int) ≤ G232 12 ∧ G232 12 ≤ 3002 := hW240.1 12
                        refine jr_get (pc' := 183) (i := 12) (v := .int (i32 (G232 12))) rfl rfl (by decide) rfl rfl ?_
                        refine jx_vr (pc' := 186) (as := [.int (i32 (4)), .int (i32 (G232 12))]) (st := []) rfl rfl rfl rfl ⟨rfl, rfl, Nat.le_of_ble_eq_true rfl⟩ rfl rfl (c_fail (dd := d) (hd := by omega) (hW := hW286) (kind := 4) (place := G232 12) (fk := fk2_236) (e_fk := show G232 16 = fk2_236 from (e245))  (h_kind := ⟨(by decide), (by decide)⟩) (h_place := ⟨(Int.le_trans (by decide : (-2147483648 : Int) ≤ -3000) b334.1), (Int.le_trans b334.2 (by decide : (3002 : Int) ≤ 2147483647))⟩)  (p_0 := by omega) (p_1 := by omega)) (fun o V' hq => ?_)
                        obtain ⟨G335, A336, fk2_337, rfl, rfl, hW338, hF339, e340, p341, -⟩ := hq
                        have hF343 := Fr_tr hF287 hF339 (Fr_sub (by decide)) (Fr_sub (by decide))
                        have hP344 := Pf_f hP289 hF339 (by decide)
                        have sf345 : ND A336 (n) (25) (nu) (0) (0) (0) (Ax 21 (n).toNat) (0) := ND_ag (by omega) (Ag_fr hF339 (by decide)) sf290
                        have sf346 : CA A336 Vs sb (n) (r234) ((kk + 1)) (pp) (n + 1) (nd2_238) := CA_ag (by omega) (Sg_fr hF339 (by decide)) (Ag_fr hF339 (by decide)) (congrFun (hF339.2 21 rfl) _) sf291
                        have sf347 : wA A336 Vs sb (pp + kk) (r234) (nd1) (nd2_238) := wA_ag (by omega) (Sg_fr hF339 (by decide)) (Ax_ag (Ag_fr hF339 (by decide))) sf292
                        have sf348 : NX A336 (r234) := NX_ag (by omega) (Ag_fr hF339 (by decide)) sf293
                        have bfk2_337 : (0 : Int) ≤ fk2_337 ∧ fk2_337 ≤ 6 := e340 ▸ hW338.1 16
                        refine .inl ⟨rfl, ?_⟩
                        refine jx_ld (pc' := 187) (l' := L295) (st' := [.ref 66]) rfl (jl_aloadn gL295_0) ?_
                        refine jx_ar (pc' := 188) (st' := [.int (i32 (1)), .ref 66]) rfl rfl rfl rfl ?_
                        refine jx_vr (pc' := 191) (as := [.int (i32 (1))]) (st := []) rfl rfl rfl rfl ⟨rfl, rfl, Nat.le_of_ble_eq_true rfl⟩ rfl rfl (c_need (dd := d) (hd := by omega) (hW := hW338) (g := 1) (ln := ln) (e_ln := show G335 9 = ln from ((hF339.1 9 rfl).trans ((hF241.1 9 rfl).trans (fx_9)))) (le := le) (e_le := show A336 4 (ln).toNat = le from (congrFun ((hF339.2 4 rfl).trans (((congrFun eA285 4).trans (uA_ne (by decide))).trans ((hF241.2 4 rfl).trans (hFx.2 4 rfl)))) _).trans (e_le)) (at0 := at2_235) (e_at0 := show G335 10 = at2_235 from ((hF339.1 10 rfl).trans (e244))) (fk := fk2_337) (e_fk := show G335 16 = fk2_337 from (e340)) (tk0 := tk2_239) (e_tk0 := show G335 11 = tk2_239 from ((hF339.1 11 rfl).trans (e248)))  (h_g := ⟨(by decide), (by decide)⟩)  (p_0 := by omega)) (fun o V' hq => ?_)
                        obtain ⟨G349, A350, at2_351, tk2_352, fk2_353, rfl, rfl, hW354, hF355, e356, e357, e358, p359, p360, q361⟩ := hq
                        have hF362 := Fr_tr hF343 hF355 (Fr_sub (by decide)) (Fr_sub (by decide))
                        have hP363 := Pf_f hP344 hF355 (by decide)
                        have sf364 : ND A350 (n) (25) (nu) (0) (0) (0) (Ax 21 (n).toNat) (0) := ND_ag (by omega) (Ag_fr hF355 (by decide)) sf345
                        have sf365 : CA A350 Vs sb (n) (r234) ((kk + 1)) (pp) (n + 1) (nd2_238) := CA_ag (by omega) (Sg_fr hF355 (by decide)) (Ag_fr hF355 (by decide)) (congrFun (hF355.2 21 rfl) _) sf346
                        have sf366 : wA A350 Vs sb (pp + kk) (r234) (nd1) (nd2_238) := wA_ag (by omega) (Sg_fr hF355 (by decide)) (Ax_ag (Ag_fr hF355 (by decide))) sf347
                        have sf367 : NX A350 (r234) := NX_ag (by omega) (Ag_fr hF355 (by decide)) sf348
                        have bat2_351 : (0 : Int) ≤ at2_351 ∧ at2_351 ≤ 3002 := e356 ▸ hW354.1 10
                        have ztk2_352 := tz_b tk2_352
                        have btk2_352 : (0 : Int) ≤ tk2_352 ∧ tk2_352 ≤ 5 := e357 ▸ hW354.1 11
                        have bfk2_353 : (0 : Int) ≤ fk2_353 ∧ fk2_353 ≤ 6 := e358 ▸ hW354.1 16
                        refine .inl ⟨rfl, ?_⟩
                        rcases q361 with ⟨a368, a369, a370, a371⟩ | ⟨a372, a373, a374, a375⟩
                        · have _q : True := trivial
                          refine jx_go (tg := 230) rfl rfl ?_
                          refine jx_go (tg := 88) rfl rfl ?_
                          have z376 := tz_f (tk2_352)
                          exact c_readCall_at_88p (X := X) (d := d) (Vs := Vs) (sb := sb) (pb := pb) (c0 := c0) (c1 := c1) (G := G) (A := A) (T := T) (s := s) (ln := ln) (le := le) (at0 := at0) (fk := fk) (op0 := op0) (nd := nd) (tk0 := tk0) (li := li) (kd := kd) (nu := nu) (mp := mp) (pp := pp) (hd := hd) (hW := hW) (e_ln := e_ln) (e_le := e_le) (e_at0 := e_at0) (e_fk := e_fk) (e_op0 := e_op0) (e_nd := e_nd) (e_tk0 := e_tk0) (e_li := e_li) (e_kd := e_kd) (e_nu := e_nu) (e_mp := e_mp) (e_pp := e_pp) (i_SV := i_SV) (i_PQ := i_PQ) (h_s := h_s) (p_0 := p_0) (p_1 := p_1) (p_2 := p_2) (p_3 := p_3) (p_4 := p_4) (p_5 := p_5) (p_6 := p_6) (p_7 := p_7) (p_8 := p_8) L295 G349 A350 (n) (many) (r234) ((kk + (1))) (at2_351) (tk2_352) (fk2_353) (nd2_238) (op2_237) gL295_0 gL295_1 gL295_2 gL295_3 gL295_4 gL295_5 hW354 hF362 hP363 ((e356)) ((e357)) ((e358)) (((hF355.1 31 rfl).trans ((hF339.1 31 rfl).trans (e247)))) (((hF355.1 15 rfl).trans ((hF339.1 15 rfl).trans (e246)))) (((hF355.1 9 rfl).trans ((hF339.1 9 rfl).trans ((hF241.1 9 rfl).trans (fx_9))))) (by omega) (by omega) (by omega) (by omega) (by omega) (by omega) (by omega) (by omega) (by omega) (by omega) (by omega)
                        · have _q : True := trivial
                          exfalso
                          omega
                  · have _q : True := trivial
                    refine jx_if_eq (pc' := 171) (tg := 194) rfl rfl rfl (by decide) (by decide) (fun h377 => ?_) (fun h377 => ?_)
                    · have _q := h377
                      refine jx_ld (pc' := 195) (l' := L295) (st' := [.ref 66]) rfl (jl_aloadn gL295_0) ?_
                      refine jx_ar (pc' := 197) (st' := [.int (i32 (41)), .ref 66]) rfl rfl rfl rfl ?_
                      refine jx_vr (pc' := 200) (as := [.int (i32 (41))]) (st := []) rfl rfl rfl rfl ⟨rfl, rfl, Nat.le_of_ble_eq_true rfl⟩ rfl rfl (c_is (dd := d) (hd := by omega) (hW := hW286) (k := 41) (tk := tk2_239) (e_tk := show G232 11 = tk2_239 from (e248)) (tn := G232 13) (e_tn := show G232 13 = G232 13 from rfl)  (h_k := ⟨(by decide), (by decide)⟩)  ) (fun o V' hq => ?_)
                      obtain ⟨r378, rfl, rfl, b379, q380⟩ := hq
                      refine .inr ⟨_, rfl, ?_⟩
                      rcases q380 with ⟨rfl, a381, a382, a383⟩ | rfl
                      · have _q : True := trivial
                        refine jx_if_eq (pc' := 203) (tg := 221) rfl rfl rfl (by decide) (by decide) (fun h384 => ?_) (fun h384 => ?_)
                        · have _q := h384
                          exact absurd h384 (by omega)
                        · have _q := h384
                          refine jx_ld (pc' := 205) (l' := L295) (st' := [.int (i32 ((kk + (1))))]) rfl (jl_iload gL295_5) ?_
                          refine jx_ld (pc' := 206) (l' := L295) (st' := [.int (i32 (many)), .int (i32 ((kk + (1))))]) rfl (jl_iloadn gL295_3) ?_
                          refine jx_icmp_ge (pc' := 209) (tg := 230) rfl rfl rfl (by omega) (by omega) (Int.le_trans (by decide : (-2147483648 : Int) ≤ -2147483648) rx_many.1) (Int.le_trans rx_many.2 (by decide : (2147483647 : Int) ≤ 2147483647)) (fun h385 => ?_) (fun h385 => ?_)
                          · have _q := h385
                            refine jx_go (tg := 88) rfl rfl ?_
                            have z386 := tz_f (tk2_239)
                            exact ih88 _ (by omega) L295 G232 A285 (n) (many) (r234) ((kk + (1))) (at2_235) (tk2_239) (fk2_236) (nd2_238) (op2_237) rfl gL295_0 gL295_1 gL295_2 gL295_3 gL295_4 gL295_5 hW286 hF287 hP289 ((e244)) ((e248)) ((e245)) ((e247)) ((e246)) (((hF241.1 9 rfl).trans (fx_9))) (by omega) (by omega) (by omega) (by omega) (by omega) (by omega) (by omega) (by omega) (by omega) (by omega) (by omega) (by omega) (by omega) (by omega) (by omega) (by omega) (by omega) (by omega) (by omega) ((ND_sf sf290)) ((CA_eq sf291 (by omega) (by omega) (by omega) (by omega) (by omega)))
                          · have _q := h385
                            refine jx_ld (pc' := 210) (l' := L295) (st' := [.ref 66]) rfl (jl_aloadn gL295_0) ?_
                            refine jx_ar (pc' := 211) (st' := [.int (i32 (4)), .ref 66]) rfl rfl rfl rfl ?_
                            refine jx_ld (pc' := 212) (l' := L295) (st' := [.ref 66, .int (i32 (4)), .ref 66]) rfl (jl_aloadn gL295_0) ?_
                            have b387 : (-3000 : Int) ≤ G232 12 ∧ G232 12 ≤ 3002 := hW240.1 12
                            refine jr_get (pc' := 215) (i := 12) (v := .int (i32 (G232 12))) rfl rfl (by decide) rfl rfl ?_
                            refine jx_vr (pc' := 218) (as := [.int (i32 (4)), .int (i32 (G232 12))]) (st := []) rfl rfl rfl rfl ⟨rfl, rfl, Nat.le_of_ble_eq_true rfl⟩ rfl rfl (c_fail (dd := d) (hd := by omega) (hW := hW286) (kind := 4) (place := G232 12) (fk := fk2_236) (e_fk := show G232 16 = fk2_236 from (e245))  (h_kind := ⟨(by decide), (by decide)⟩) (h_place := ⟨(Int.le_trans (by decide : (-2147483648 : Int) ≤ -3000) b387.1), (Int.le_trans b387.2 (by decide : (3002 : Int) ≤ 2147483647))⟩)  (p_0 := by omega) (p_1 := by omega)) (fun o V' hq => ?_)
                            obtain ⟨G388, A389, fk2_390, rfl, rfl, hW391, hF392, e393, p394, -⟩ := hq
                            have hF396 := Fr_tr hF287 hF392 (Fr_sub (by decide)) (Fr_sub (by decide))
                            have hP397 := Pf_f hP289 hF392 (by decide)
                            have sf398 : ND A389 (n) (25) (nu) (0) (0) (0) (Ax 21 (n).toNat) (0) := ND_ag (by omega) (Ag_fr hF392 (by decide)) sf290
                            have sf399 : CA A389 Vs sb (n) (r234) ((kk + 1)) (pp) (n + 1) (nd2_238) := CA_ag (by omega) (Sg_fr hF392 (by decide)) (Ag_fr hF392 (by decide)) (congrFun (hF392.2 21 rfl) _) sf291
                            have sf400 : wA A389 Vs sb (pp + kk) (r234) (nd1) (nd2_238) := wA_ag (by omega) (Sg_fr hF392 (by decide)) (Ax_ag (Ag_fr hF392 (by decide))) sf292
                            have sf401 : NX A389 (r234) := NX_ag (by omega) (Ag_fr hF392 (by decide)) sf293
                            have bfk2_390 : (0 : Int) ≤ fk2_390 ∧ fk2_390 ≤ 6 := e393 ▸ hW391.1 16
                            refine .inl ⟨rfl, ?_⟩
                            refine jx_go (tg := 230) rfl rfl ?_
                            refine jx_go (tg := 88) rfl rfl ?_
                            have z402 := tz_f (tk2_239)
                            exact c_readCall_at_88p (X := X) (d := d) (Vs := Vs) (sb := sb) (pb := pb) (c0 := c0) (c1 := c1) (G := G) (A := A) (T := T) (s := s) (ln := ln) (le := le) (at0 := at0) (fk := fk) (op0 := op0) (nd := nd) (tk0 := tk0) (li := li) (kd := kd) (nu := nu) (mp := mp) (pp := pp) (hd := hd) (hW := hW) (e_ln := e_ln) (e_le := e_le) (e_at0 := e_at0) (e_fk := e_fk) (e_op0 := e_op0) (e_nd := e_nd) (e_tk0 := e_tk0) (e_li := e_li) (e_kd := e_kd) (e_nu := e_nu) (e_mp := e_mp) (e_pp := e_pp) (i_SV := i_SV) (i_PQ := i_PQ) (h_s := h_s) (p_0 := p_0) (p_1 := p_1) (p_2 := p_2) (p_3 := p_3) (p_4 := p_4) (p_5 := p_5) (p_6 := p_6) (p_7 := p_7) (p_8 := p_8) L295 G388 A389 (n) (many) (r234) ((kk + (1))) (at2_235) (tk2_239) (fk2_390) (nd2_238) (op2_237) gL295_0 gL295_1 gL295_2 gL295_3 gL295_4 gL295_5 hW391 hF396 hP397 (((hF392.1 10 rfl).trans (e244))) (((hF392.1 11 rfl).trans (e248))) ((e393)) (((hF392.1 31 rfl).trans (e247))) (((hF392.1 15 rfl).trans (e246))) (((hF392.1 9 rfl).trans ((hF241.1 9 rfl).trans (fx_9)))) (by omega) (by omega) (by omega) (by omega) (by omega) (by omega) (by omega) (by omega) (by omega) (by omega) (by omega)
                      · have _q : True := trivial
                        refine jx_if_eq (pc' := 203) (tg := 221) rfl rfl rfl (by decide) (by decide) (fun h403 => ?_) (fun h403 => ?_)
                        · have _q := h403
                          refine jx_ld (pc' := 222) (l' := L295) (st' := [.ref 66]) rfl (jl_aloadn gL295_0) ?_
                          refine jx_ar (pc' := 223) (st' := [.int (i32 (1)), .ref 66]) rfl rfl rfl rfl ?_
                          refine jx_ld (pc' := 224) (l' := L295) (st' := [.ref 66, .int (i32 (1)), .ref 66]) rfl (jl_aloadn gL295_0) ?_
                          have b404 : (-3000 : Int) ≤ G232 12 ∧ G232 12 ≤ 3002 := hW240.1 12
                          refine jr_get (pc' := 227) (i := 12) (v := .int (i32 (G232 12))) rfl rfl (by decide) rfl rfl ?_
                          refine jx_vr (pc' := 230) (as := [.int (i32 (1)), .int (i32 (G232 12))]) (st := []) rfl rfl rfl rfl ⟨rfl, rfl, Nat.le_of_ble_eq_true rfl⟩ rfl rfl (c_fail (dd := d) (hd := by omega) (hW := hW286) (kind := 1) (place := G232 12) (fk := fk2_236) (e_fk := show G232 16 = fk2_236 from (e245))  (h_kind := ⟨(by decide), (by decide)⟩) (h_place := ⟨(Int.le_trans (by decide : (-2147483648 : Int) ≤ -3000) b404.1), (Int.le_trans b404.2 (by decide : (3002 : Int) ≤ 2147483647))⟩)  (p_0 := by omega) (p_1 := by omega)) (fun o V' hq => ?_)
                          obtain ⟨G405, A406, fk2_407, rfl, rfl, hW408, hF409, e410, p411, -⟩ := hq
                          have hF413 := Fr_tr hF287 hF409 (Fr_sub (by decide)) (Fr_sub (by decide))
                          have hP414 := Pf_f hP289 hF409 (by decide)
                          have sf415 : ND A406 (n) (25) (nu) (0) (0) (0) (Ax 21 (n).toNat) (0) := ND_ag (by omega) (Ag_fr hF409 (by decide)) sf290
                          have sf416 : CA A406 Vs sb (n) (r234) ((kk + 1)) (pp) (n + 1) (nd2_238) := CA_ag (by omega) (Sg_fr hF409 (by decide)) (Ag_fr hF409 (by decide)) (congrFun (hF409.2 21 rfl) _) sf291
                          have sf417 : wA A406 Vs sb (pp + kk) (r234) (nd1) (nd2_238) := wA_ag (by omega) (Sg_fr hF409 (by decide)) (Ax_ag (Ag_fr hF409 (by decide))) sf292
                          have sf418 : NX A406 (r234) := NX_ag (by omega) (Ag_fr hF409 (by decide)) sf293
                          have bfk2_407 : (0 : Int) ≤ fk2_407 ∧ fk2_407 ≤ 6 := e410 ▸ hW408.1 16
                          refine .inl ⟨rfl, ?_⟩
                          refine jx_go (tg := 88) rfl rfl ?_
                          have z419 := tz_f (tk2_239)
                          exact c_readCall_at_88p (X := X) (d := d) (Vs := Vs) (sb := sb) (pb := pb) (c0 := c0) (c1 := c1) (G := G) (A := A) (T := T) (s := s) (ln := ln) (le := le) (at0 := at0) (fk := fk) (op0 := op0) (nd := nd) (tk0 := tk0) (li := li) (kd := kd) (nu := nu) (mp := mp) (pp := pp) (hd := hd) (hW := hW) (e_ln := e_ln) (e_le := e_le) (e_at0 := e_at0) (e_fk := e_fk) (e_op0 := e_op0) (e_nd := e_nd) (e_tk0 := e_tk0) (e_li := e_li) (e_kd := e_kd) (e_nu := e_nu) (e_mp := e_mp) (e_pp := e_pp) (i_SV := i_SV) (i_PQ := i_PQ) (h_s := h_s) (p_0 := p_0) (p_1 := p_1) (p_2 := p_2) (p_3 := p_3) (p_4 := p_4) (p_5 := p_5) (p_6 := p_6) (p_7 := p_7) (p_8 := p_8) L295 G405 A406 (n) (many) (r234) ((kk + (1))) (at2_235) (tk2_239) (fk2_407) (nd2_238) (op2_237) gL295_0 gL295_1 gL295_2 gL295_3 gL295_4 gL295_5 hW408 hF413 hP414 (((hF409.1 10 rfl).trans (e244))) (((hF409.1 11 rfl).trans (e248))) ((e410)) (((hF409.1 31 rfl).trans (e247))) (((hF409.1 15 rfl).trans (e246))) (((hF409.1 9 rfl).trans ((hF241.1 9 rfl).trans (fx_9)))) (by omega) (by omega) (by omega) (by omega) (by omega) (by omega) (by omega) (by omega) (by omega) (by omega) (by omega)
                        · have _q := h403
                          exact absurd h403 (by omega)
                    · have _q := h377
                      exact absurd h377 (by omega)
                · have _q := h284
                  refine jx_ld (pc' := 136) (l' := L277) (st' := [.ref 66]) rfl (jl_aloadn gL277_0) ?_
                  refine jr_get (pc' := 139) (i := 38) (v := .ref 88) rfl rfl (by decide) rfl rfl ?_
                  refine jx_ld (pc' := 140) (l' := L277) (st' := [.int (i32 (n)), .ref 88]) rfl (jl_iloadn gL277_2) ?_
                  refine jx_ld (pc' := 142) (l' := L277) (st' := [.int (i32 (r234)), .int (i32 (n)), .ref 88]) rfl (jl_iload gL277_6) ?_
                  refine jr_st (pc' := 143) (i := 21) (m := 7000) (z := n) (y := r234) rfl (by decide) rfl (by decide) (by omega) (by omega) rfl ?_
                  have hW421 : Wk G232 (uA A233 21 (n).toNat (r234)) := Wk_a hW240 (show (-2147483648 : Int) ≤ r234 by omega) (show r234 ≤ (2147483647 : Int) by omega)
                  have hF422 := Fr_a (z := r234) (k := 21) (n := (n).toNat) hF256 (by decide)
                  obtain ⟨A420, eA420⟩ : ∃ q, q = uA A233 21 (n).toNat (r234) := ⟨_, rfl⟩
                  rw [← eA420]
                  rw [← eA420] at hW421 hF422
                  have q423 : A420 21 (n).toNat = r234 := by rw [eA420]; exact uA_eq
                  have hP424 : Pf nd A A420 := eA420 ▸ Pf_a hP257 (z := n) (by omega) (by omega)
                  have sf425 : ND A420 (n) (25) (nu) (0) (0) (0) (r234) (0) := ND_f eA420 sf258
                  have sf426 : CA A420 Vs sb (n) (r234) ((kk + 1)) (pp) (n + 1) (nd2_238) := CA_one eA420 (by omega) (by omega) (by omega) a268 a269 (CA_0 (by omega) sf259)
                  have sf427 : wA A420 Vs sb (pp + kk) (r234) (nd1) (nd2_238) := wA_ag (by omega) (Sg_ne eA420 rfl) (Ax_ag (Ag_st eA420 (by omega) (by omega))) a268
                  have sf428 : NX A420 (r234) := NX_r eA420 (by decide) a269
                  refine jx_go (tg := 155) rfl rfl ?_
                  refine jx_ld (pc' := 157) (l' := L277) (st' := [.int (i32 (r234))]) rfl (jl_iload gL277_6) ?_
                  refine jx_ld (pc' := 159) (l' := jSto1 L277 4 (.int (i32 (r234)))) (st' := []) rfl rfl ?_
                  obtain ⟨L429, eL429⟩ : ∃ q, q = jSto1 L277 4 (.int (i32 (r234))) := ⟨_, rfl⟩
                  rw [← eL429]
                  have gL429_0 : jGet L429 0 = some (.ref 66) := eL429 ▸ jg_ne (by decide) gL277_0 rfl
                  have gL429_1 : jGet L429 1 = some (.int (i32 (s))) := eL429 ▸ jg_ne (by decide) gL277_1 rfl
                  have gL429_2 : jGet L429 2 = some (.int (i32 (n))) := eL429 ▸ jg_ne (by decide) gL277_2 rfl
                  have gL429_3 : jGet L429 3 = some (.int (i32 (many))) := eL429 ▸ jg_ne (by decide) gL277_3 rfl
                  have gL429_5 : jGet L429 5 = some (.int (i32 (kk))) := eL429 ▸ jg_ne (by decide) gL277_5 rfl
                  have gL429_6 : jGet L429 6 = some (.int (i32 (r234))) := eL429 ▸ jg_ne (by decide) gL277_6 rfl
                  have gL429_4 : jGet L429 4 = some (.int (i32 (r234))) := eL429 ▸ jg_eq
                  refine jx_inc (pc' := 162) (l' := jSto1 L429 5 (.int (i32 ((kk + (1)))))) (x := kk) rfl gL429_5 (by decide) rfl rfl ?_
                  obtain ⟨L430, eL430⟩ : ∃ q, q = jSto1 L429 5 (.int (i32 ((kk + (1))))) := ⟨_, rfl⟩
                  rw [← eL430]
                  have gL430_0 : jGet L430 0 = some (.ref 66) := eL430 ▸ jg_ne (by decide) gL429_0 rfl
                  have gL430_1 : jGet L430 1 = some (.int (i32 (s))) := eL430 ▸ jg_ne (by decide) gL429_1 rfl
                  have gL430_2 : jGet L430 2 = some (.int (i32 (n))) := eL430 ▸ jg_ne (by decide) gL429_2 rfl
                  have gL430_3 : jGet L430 3 = some (.int (i32 (many))) := eL430 ▸ jg_ne (by decide) gL429_3 rfl
                  have gL430_6 : jGet L430 6 = some (.int (i32 (r234))) := eL430 ▸ jg_ne (by decide) gL429_6 rfl
                  have gL430_4 : jGet L430 4 = some (.int (i32 (r234))) := eL430 ▸ jg_ne (by decide) gL429_4 rfl
                  have gL430_5 : jGet L430 5 = some (.int (i32 ((kk + (1))))) := eL430 ▸ jg_eq
                  refine jx_ld (pc' := 163) (l' := L430) (st' := [.ref 66]) rfl (jl_aloadn gL430_0) ?_
                  refine jx_ar (pc' := 165) (st' := [.int (i32 (44)), .ref 66]) rfl rfl rfl rfl ?_
                  have b431 : (-2147483648 : Int) ≤ G232 13 ∧ G232 13 ≤ 2147483647 := hW240.1 13
                  refine jx_vr (pc' := 168) (as := [.int (i32 (44))]) (st := []) rfl rfl rfl rfl ⟨rfl, rfl, Nat.le_of_ble_eq_true rfl⟩ rfl rfl (c_is (dd := d) (hd := by omega) (hW := hW421) (k := 44) (tk := tk2_239) (e_tk := show G232 11 = tk2_239 from (e248)) (tn := G232 13) (e_tn := show G232 13 = G232 13 from rfl)  (h_k := ⟨(by decide), (by decide)⟩)  ) (fun o V' hq => ?_)
                  obtain ⟨r432, rfl, rfl, b433, q434⟩ := hq
                  refine .inr ⟨_, rfl, ?_⟩
                  rcases q434 with ⟨rfl, a435, a436, a437⟩ | rfl
                  · have _q : True := trivial
                    refine jx_if_eq (pc' := 171) (tg := 194) rfl rfl rfl (by decide) (by decide) (fun h438 => ?_) (fun h438 => ?_)
                    · have _q := h438
                      exact absurd h438 (by omega)
                    · have _q := h438
                      refine jx_ld (pc' := 173) (l' := L430) (st' := [.int (i32 ((kk + (1))))]) rfl (jl_iload gL430_5) ?_
                      refine jx_ld (pc' := 174) (l' := L430) (st' := [.int (i32 (many)), .int (i32 ((kk + (1))))]) rfl (jl_iloadn gL430_3) ?_
                      refine jx_icmp_ne (pc' := 177) (tg := 186) rfl rfl rfl (by omega) (by omega) (Int.le_trans (by decide : (-2147483648 : Int) ≤ -2147483648) rx_many.1) (Int.le_trans rx_many.2 (by decide : (2147483647 : Int) ≤ 2147483647)) (fun h439 => ?_) (fun h439 => ?_)
                      · have _q := h439
                        refine jx_ld (pc' := 187) (l' := L430) (st' := [.ref 66]) rfl (jl_aloadn gL430_0) ?_
                        refine jx_ar (pc' := 188) (st' := [.int (i32 (1)), .ref 66]) rfl rfl rfl rfl ?_
                        refine jx_vr (pc' := 191) (as := [.int (i32 (1))]) (st := []) rfl rfl rfl rfl ⟨rfl, rfl, Nat.le_of_ble_eq_true rfl⟩ rfl rfl (c_need (dd := d) (hd := by omega) (hW := hW421) (g := 1) (ln := ln) (e_ln := show G232 9 = ln from ((hF241.1 9 rfl).trans (fx_9))) (le := le) (e_le := show A420 4 (ln).toNat = le from (congrFun (((congrFun eA420 4).trans (uA_ne (by decide))).trans ((hF241.2 4 rfl).trans (hFx.2 4 rfl))) _).trans (e_le)) (at0 := at2_235) (e_at0 := show G232 10 = at2_235 from (e244)) (fk := fk2_236) (e_fk := show G232 16 = fk2_236 from (e245)) (tk0 := tk2_239) (e_tk0 := show G232 11 = tk2_239 from (e248))  (h_g := ⟨(by decide), (by decide)⟩)  (p_0 := by omega)) (fun o V' hq => ?_)
                        obtain ⟨G440, A441, at2_442, tk2_443, fk2_444, rfl, rfl, hW445, hF446, e447, e448, e449, p450, p451, q452⟩ := hq
                        have hF453 := Fr_tr hF422 hF446 (Fr_sub (by decide)) (Fr_sub (by decide))
                        have hP454 := Pf_f hP424 hF446 (by decide)
                        have sf455 : ND A441 (n) (25) (nu) (0) (0) (0) (r234) (0) := ND_ag (by omega) (Ag_fr hF446 (by decide)) sf425
                        have sf456 : CA A441 Vs sb (n) (r234) ((kk + 1)) (pp) (n + 1) (nd2_238) := CA_ag (by omega) (Sg_fr hF446 (by decide)) (Ag_fr hF446 (by decide)) (congrFun (hF446.2 21 rfl) _) sf426
                        have sf457 : wA A441 Vs sb (pp + kk) (r234) (nd1) (nd2_238) := wA_ag (by omega) (Sg_fr hF446 (by decide)) (Ax_ag (Ag_fr hF446 (by decide))) sf427
                        have sf458 : NX A441 (r234) := NX_ag (by omega) (Ag_fr hF446 (by decide)) sf428
                        have bat2_442 : (0 : Int) ≤ at2_442 ∧ at2_442 ≤ 3002 := e447 ▸ hW445.1 10
                        have ztk2_443 := tz_b tk2_443
                        have btk2_443 : (0 : Int) ≤ tk2_443 ∧ tk2_443 ≤ 5 := e448 ▸ hW445.1 11
                        have bfk2_444 : (0 : Int) ≤ fk2_444 ∧ fk2_444 ≤ 6 := e449 ▸ hW445.1 16
                        refine .inl ⟨rfl, ?_⟩
                        rcases q452 with ⟨a459, a460, a461, a462⟩ | ⟨a463, a464, a465, a466⟩
                        · have _q : True := trivial
                          refine jx_go (tg := 230) rfl rfl ?_
                          refine jx_go (tg := 88) rfl rfl ?_
                          have z467 := tz_f (tk2_443)
                          exact c_readCall_at_88p (X := X) (d := d) (Vs := Vs) (sb := sb) (pb := pb) (c0 := c0) (c1 := c1) (G := G) (A := A) (T := T) (s := s) (ln := ln) (le := le) (at0 := at0) (fk := fk) (op0 := op0) (nd := nd) (tk0 := tk0) (li := li) (kd := kd) (nu := nu) (mp := mp) (pp := pp) (hd := hd) (hW := hW) (e_ln := e_ln) (e_le := e_le) (e_at0 := e_at0) (e_fk := e_fk) (e_op0 := e_op0) (e_nd := e_nd) (e_tk0 := e_tk0) (e_li := e_li) (e_kd := e_kd) (e_nu := e_nu) (e_mp := e_mp) (e_pp := e_pp) (i_SV := i_SV) (i_PQ := i_PQ) (h_s := h_s) (p_0 := p_0) (p_1 := p_1) (p_2 := p_2) (p_3 := p_3) (p_4 := p_4) (p_5 := p_5) (p_6 := p_6) (p_7 := p_7) (p_8 := p_8) L430 G440 A441 (n) (many) (r234) ((kk + (1))) (at2_442) (tk2_443) (fk2_444) (nd2_238) (op2_237) gL430_0 gL430_1 gL430_2 gL430_3 gL430_4 gL430_5 hW445 hF453 hP454 ((e447)) ((e448)) ((e449)) (((hF446.1 31 rfl).trans (e247))) (((hF446.1 15 rfl).trans (e246))) (((hF446.1 9 rfl).trans ((hF241.1 9 rfl).trans (fx_9)))) (by omega) (by omega) (by omega) (by omega) (by omega) (by omega) (by omega) (by omega) (by omega) (by omega) (by omega)
                        · have _q : True := trivial
                          refine jx_go (tg := 230) rfl rfl ?_
                          refine jx_go (tg := 88) rfl rfl ?_
                          have z468 := tz_f (tk2_443)
                          exact ih88 _ (by omega) L430 G440 A441 (n) (many) (r234) ((kk + (1))) (at2_442) (tk2_443) (fk2_444) (nd2_238) (op2_237) rfl gL430_0 gL430_1 gL430_2 gL430_3 gL430_4 gL430_5 hW445 hF453 hP454 ((e447)) ((e448)) ((e449)) (((hF446.1 31 rfl).trans (e247))) (((hF446.1 15 rfl).trans (e246))) (((hF446.1 9 rfl).trans ((hF241.1 9 rfl).trans (fx_9)))) (by omega) (by omega) (by omega) (by omega) (by omega) (by omega) (by omega) (by omega) (by omega) (by omega) (by omega) (by omega) (by omega) (by omega) (by omega) (by omega) (by omega) (by omega) (by omega) ((ND_sf sf455)) ((CA_eq sf456 (by omega) (by omega) (by omega) (by omega) (by omega)))
                      · have _q := h439
                        refine jx_ld (pc' := 178) (l' := L430) (st' := [.ref 66]) rfl (jl_aloadn gL430_0) ?_
                        refine jx_ar (pc' := 179) (st' := [.int (i32 (4)), .ref 66]) rfl rfl rfl rfl ?_
                        refine jx_ld (pc' := 180) (l' := L430) (st' := [.ref 66, .int (i32 (4)), .ref 66]) rfl (jl_aloadn gL430_0) ?_
                        have b469 : (-3000 : Int) ≤ G232 12 ∧ G232 12 ≤ 3002 := hW240.1 12
                        refine jr_get (pc' := 183) (i := 12) (v := .int (i32 (G232 12))) rfl rfl (by decide) rfl rfl ?_
                        refine jx_vr (pc' := 186) (as := [.int (i32 (4)), .int (i32 (G232 12))]) (st := []) rfl rfl rfl rfl ⟨rfl, rfl, Nat.le_of_ble_eq_true rfl⟩ rfl rfl (c_fail (dd := d) (hd := by omega) (hW := hW421) (kind := 4) (place := G232 12) (fk := fk2_236) (e_fk := show G232 16 = fk2_236 from (e245))  (h_kind := ⟨(by decide), (by decide)⟩) (h_place := ⟨(Int.le_trans (by decide : (-2147483648 : Int) ≤ -3000) b469.1), (Int.le_trans b469.2 (by decide : (3002 : Int) ≤ 2147483647))⟩)  (p_0 := by omega) (p_1 := by omega)) (fun o V' hq => ?_)
                        obtain ⟨G470, A471, fk2_472, rfl, rfl, hW473, hF474, e475, p476, -⟩ := hq
                        have hF478 := Fr_tr hF422 hF474 (Fr_sub (by decide)) (Fr_sub (by decide))
                        have hP479 := Pf_f hP424 hF474 (by decide)
                        have sf480 : ND A471 (n) (25) (nu) (0) (0) (0) (r234) (0) := ND_ag (by omega) (Ag_fr hF474 (by decide)) sf425
                        have sf481 : CA A471 Vs sb (n) (r234) ((kk + 1)) (pp) (n + 1) (nd2_238) := CA_ag (by omega) (Sg_fr hF474 (by decide)) (Ag_fr hF474 (by decide)) (congrFun (hF474.2 21 rfl) _) sf426
                        have sf482 : wA A471 Vs sb (pp + kk) (r234) (nd1) (nd2_238) := wA_ag (by omega) (Sg_fr hF474 (by decide)) (Ax_ag (Ag_fr hF474 (by decide))) sf427
                        have sf483 : NX A471 (r234) := NX_ag (by omega) (Ag_fr hF474 (by decide)) sf428
                        have bfk2_472 : (0 : Int) ≤ fk2_472 ∧ fk2_472 ≤ 6 := e475 ▸ hW473.1 16
                        refine .inl ⟨rfl, ?_⟩
                        refine jx_ld (pc' := 187) (l' := L430) (st' := [.ref 66]) rfl (jl_aloadn gL430_0) ?_
                        refine jx_ar (pc' := 188) (st' := [.int (i32 (1)), .ref 66]) rfl rfl rfl rfl ?_
                        refine jx_vr (pc' := 191) (as := [.int (i32 (1))]) (st := []) rfl rfl rfl rfl ⟨rfl, rfl, Nat.le_of_ble_eq_true rfl⟩ rfl rfl (c_need (dd := d) (hd := by omega) (hW := hW473) (g := 1) (ln := ln) (e_ln := show G470 9 = ln from ((hF474.1 9 rfl).trans ((hF241.1 9 rfl).trans (fx_9)))) (le := le) (e_le := show A471 4 (ln).toNat = le from (congrFun ((hF474.2 4 rfl).trans (((congrFun eA420 4).trans (uA_ne (by decide))).trans ((hF241.2 4 rfl).trans (hFx.2 4 rfl)))) _).trans (e_le)) (at0 := at2_235) (e_at0 := show G470 10 = at2_235 from ((hF474.1 10 rfl).trans (e244))) (fk := fk2_472) (e_fk := show G470 16 = fk2_472 from (e475)) (tk0 := tk2_239) (e_tk0 := show G470 11 = tk2_239 from ((hF474.1 11 rfl).trans (e248)))  (h_g := ⟨(by decide), (by decide)⟩)  (p_0 := by omega)) (fun o V' hq => ?_)
                        obtain ⟨G484, A485, at2_486, tk2_487, fk2_488, rfl, rfl, hW489, hF490, e491, e492, e493, p494, p495, q496⟩ := hq
                        have hF497 := Fr_tr hF478 hF490 (Fr_sub (by decide)) (Fr_sub (by decide))
                        have hP498 := Pf_f hP479 hF490 (by decide)
                        have sf499 : ND A485 (n) (25) (nu) (0) (0) (0) (r234) (0) := ND_ag (by omega) (Ag_fr hF490 (by decide)) sf480
                        have sf500 : CA A485 Vs sb (n) (r234) ((kk + 1)) (pp) (n + 1) (nd2_238) := CA_ag (by omega) (Sg_fr hF490 (by decide)) (Ag_fr hF490 (by decide)) (congrFun (hF490.2 21 rfl) _) sf481
                        have sf501 : wA A485 Vs sb (pp + kk) (r234) (nd1) (nd2_238) := wA_ag (by omega) (Sg_fr hF490 (by decide)) (Ax_ag (Ag_fr hF490 (by decide))) sf482
                        have sf502 : NX A485 (r234) := NX_ag (by omega) (Ag_fr hF490 (by decide)) sf483
                        have bat2_486 : (0 : Int) ≤ at2_486 ∧ at2_486 ≤ 3002 := e491 ▸ hW489.1 10
                        have ztk2_487 := tz_b tk2_487
                        have btk2_487 : (0 : Int) ≤ tk2_487 ∧ tk2_487 ≤ 5 := e492 ▸ hW489.1 11
                        have bfk2_488 : (0 : Int) ≤ fk2_488 ∧ fk2_488 ≤ 6 := e493 ▸ hW489.1 16
                        refine .inl ⟨rfl, ?_⟩
                        rcases q496 with ⟨a503, a504, a505, a506⟩ | ⟨a507, a508, a509, a510⟩
                        · have _q : True := trivial
                          refine jx_go (tg := 230) rfl rfl ?_
                          refine jx_go (tg := 88) rfl rfl ?_
                          have z511 := tz_f (tk2_487)
                          exact c_readCall_at_88p (X := X) (d := d) (Vs := Vs) (sb := sb) (pb := pb) (c0 := c0) (c1 := c1) (G := G) (A := A) (T := T) (s := s) (ln := ln) (le := le) (at0 := at0) (fk := fk) (op0 := op0) (nd := nd) (tk0 := tk0) (li := li) (kd := kd) (nu := nu) (mp := mp) (pp := pp) (hd := hd) (hW := hW) (e_ln := e_ln) (e_le := e_le) (e_at0 := e_at0) (e_fk := e_fk) (e_op0 := e_op0) (e_nd := e_nd) (e_tk0 := e_tk0) (e_li := e_li) (e_kd := e_kd) (e_nu := e_nu) (e_mp := e_mp) (e_pp := e_pp) (i_SV := i_SV) (i_PQ := i_PQ) (h_s := h_s) (p_0 := p_0) (p_1 := p_1) (p_2 := p_2) (p_3 := p_3) (p_4 := p_4) (p_5 := p_5) (p_6 := p_6) (p_7 := p_7) (p_8 := p_8) L430 G484 A485 (n) (many) (r234) ((kk + (1))) (at2_486) (tk2_487) (fk2_488) (nd2_238) (op2_237) gL430_0 gL430_1 gL430_2 gL430_3 gL430_4 gL430_5 hW489 hF497 hP498 ((e491)) ((e492)) ((e493)) (((hF490.1 31 rfl).trans ((hF474.1 31 rfl).trans (e247)))) (((hF490.1 15 rfl).trans ((hF474.1 15 rfl).trans (e246)))) (((hF490.1 9 rfl).trans ((hF474.1 9 rfl).trans ((hF241.1 9 rfl).trans (fx_9))))) (by omega) (by omega) (by omega) (by omega) (by omega) (by omega) (by omega) (by omega) (by omega) (by omega) (by omega)
                        · have _q : True := trivial
                          exfalso
                          omega
                  · have _q : True := trivial
                    refine jx_if_eq (pc' := 171) (tg := 194) rfl rfl rfl (by decide) (by decide) (fun h512 => ?_) (fun h512 => ?_)
                    · have _q := h512
                      refine jx_ld (pc' := 195) (l' := L430) (st' := [.ref 66]) rfl (jl_aloadn gL430_0) ?_
                      refine jx_ar (pc' := 197) (st' := [.int (i32 (41)), .ref 66]) rfl rfl rfl rfl ?_
                      refine jx_vr (pc' := 200) (as := [.int (i32 (41))]) (st := []) rfl rfl rfl rfl ⟨rfl, rfl, Nat.le_of_ble_eq_true rfl⟩ rfl rfl (c_is (dd := d) (hd := by omega) (hW := hW421) (k := 41) (tk := tk2_239) (e_tk := show G232 11 = tk2_239 from (e248)) (tn := G232 13) (e_tn := show G232 13 = G232 13 from rfl)  (h_k := ⟨(by decide), (by decide)⟩)  ) (fun o V' hq => ?_)
                      obtain ⟨r513, rfl, rfl, b514, q515⟩ := hq
                      refine .inr ⟨_, rfl, ?_⟩
                      rcases q515 with ⟨rfl, a516, a517, a518⟩ | rfl
                      · have _q : True := trivial
                        refine jx_if_eq (pc' := 203) (tg := 221) rfl rfl rfl (by decide) (by decide) (fun h519 => ?_) (fun h519 => ?_)
                        · have _q := h519
                          exact absurd h519 (by omega)
                        · have _q := h519
                          refine jx_ld (pc' := 205) (l' := L430) (st' := [.int (i32 ((kk + (1))))]) rfl (jl_iload gL430_5) ?_
                          refine jx_ld (pc' := 206) (l' := L430) (st' := [.int (i32 (many)), .int (i32 ((kk + (1))))]) rfl (jl_iloadn gL430_3) ?_
                          refine jx_icmp_ge (pc' := 209) (tg := 230) rfl rfl rfl (by omega) (by omega) (Int.le_trans (by decide : (-2147483648 : Int) ≤ -2147483648) rx_many.1) (Int.le_trans rx_many.2 (by decide : (2147483647 : Int) ≤ 2147483647)) (fun h520 => ?_) (fun h520 => ?_)
                          · have _q := h520
                            refine jx_go (tg := 88) rfl rfl ?_
                            have z521 := tz_f (tk2_239)
                            exact ih88 _ (by omega) L430 G232 A420 (n) (many) (r234) ((kk + (1))) (at2_235) (tk2_239) (fk2_236) (nd2_238) (op2_237) rfl gL430_0 gL430_1 gL430_2 gL430_3 gL430_4 gL430_5 hW421 hF422 hP424 ((e244)) ((e248)) ((e245)) ((e247)) ((e246)) (((hF241.1 9 rfl).trans (fx_9))) (by omega) (by omega) (by omega) (by omega) (by omega) (by omega) (by omega) (by omega) (by omega) (by omega) (by omega) (by omega) (by omega) (by omega) (by omega) (by omega) (by omega) (by omega) (by omega) ((ND_sf sf425)) ((CA_eq sf426 (by omega) (by omega) (by omega) (by omega) (by omega)))
                          · have _q := h520
                            refine jx_ld (pc' := 210) (l' := L430) (st' := [.ref 66]) rfl (jl_aloadn gL430_0) ?_
                            refine jx_ar (pc' := 211) (st' := [.int (i32 (4)), .ref 66]) rfl rfl rfl rfl ?_
                            refine jx_ld (pc' := 212) (l' := L430) (st' := [.ref 66, .int (i32 (4)), .ref 66]) rfl (jl_aloadn gL430_0) ?_
                            have b522 : (-3000 : Int) ≤ G232 12 ∧ G232 12 ≤ 3002 := hW240.1 12
                            refine jr_get (pc' := 215) (i := 12) (v := .int (i32 (G232 12))) rfl rfl (by decide) rfl rfl ?_
                            refine jx_vr (pc' := 218) (as := [.int (i32 (4)), .int (i32 (G232 12))]) (st := []) rfl rfl rfl rfl ⟨rfl, rfl, Nat.le_of_ble_eq_true rfl⟩ rfl rfl (c_fail (dd := d) (hd := by omega) (hW := hW421) (kind := 4) (place := G232 12) (fk := fk2_236) (e_fk := show G232 16 = fk2_236 from (e245))  (h_kind := ⟨(by decide), (by decide)⟩) (h_place := ⟨(Int.le_trans (by decide : (-2147483648 : Int) ≤ -3000) b522.1), (Int.le_trans b522.2 (by decide : (3002 : Int) ≤ 2147483647))⟩)  (p_0 := by omega) (p_1 := by omega)) (fun o V' hq => ?_)
                            obtain ⟨G523, A524, fk2_525, rfl, rfl, hW526, hF527, e528, p529, -⟩ := hq
                            have hF531 := Fr_tr hF422 hF527 (Fr_sub (by decide)) (Fr_sub (by decide))
                            have hP532 := Pf_f hP424 hF527 (by decide)
                            have sf533 : ND A524 (n) (25) (nu) (0) (0) (0) (r234) (0) := ND_ag (by omega) (Ag_fr hF527 (by decide)) sf425
                            have sf534 : CA A524 Vs sb (n) (r234) ((kk + 1)) (pp) (n + 1) (nd2_238) := CA_ag (by omega) (Sg_fr hF527 (by decide)) (Ag_fr hF527 (by decide)) (congrFun (hF527.2 21 rfl) _) sf426
                            have sf535 : wA A524 Vs sb (pp + kk) (r234) (nd1) (nd2_238) := wA_ag (by omega) (Sg_fr hF527 (by decide)) (Ax_ag (Ag_fr hF527 (by decide))) sf427
                            have sf536 : NX A524 (r234) := NX_ag (by omega) (Ag_fr hF527 (by decide)) sf428
                            have bfk2_525 : (0 : Int) ≤ fk2_525 ∧ fk2_525 ≤ 6 := e528 ▸ hW526.1 16
                            refine .inl ⟨rfl, ?_⟩
                            refine jx_go (tg := 230) rfl rfl ?_
                            refine jx_go (tg := 88) rfl rfl ?_
                            have z537 := tz_f (tk2_239)
                            exact c_readCall_at_88p (X := X) (d := d) (Vs := Vs) (sb := sb) (pb := pb) (c0 := c0) (c1 := c1) (G := G) (A := A) (T := T) (s := s) (ln := ln) (le := le) (at0 := at0) (fk := fk) (op0 := op0) (nd := nd) (tk0 := tk0) (li := li) (kd := kd) (nu := nu) (mp := mp) (pp := pp) (hd := hd) (hW := hW) (e_ln := e_ln) (e_le := e_le) (e_at0 := e_at0) (e_fk := e_fk) (e_op0 := e_op0) (e_nd := e_nd) (e_tk0 := e_tk0) (e_li := e_li) (e_kd := e_kd) (e_nu := e_nu) (e_mp := e_mp) (e_pp := e_pp) (i_SV := i_SV) (i_PQ := i_PQ) (h_s := h_s) (p_0 := p_0) (p_1 := p_1) (p_2 := p_2) (p_3 := p_3) (p_4 := p_4) (p_5 := p_5) (p_6 := p_6) (p_7 := p_7) (p_8 := p_8) L430 G523 A524 (n) (many) (r234) ((kk + (1))) (at2_235) (tk2_239) (fk2_525) (nd2_238) (op2_237) gL430_0 gL430_1 gL430_2 gL430_3 gL430_4 gL430_5 hW526 hF531 hP532 (((hF527.1 10 rfl).trans (e244))) (((hF527.1 11 rfl).trans (e248))) ((e528)) (((hF527.1 31 rfl).trans (e247))) (((hF527.1 15 rfl).trans (e246))) (((hF527.1 9 rfl).trans ((hF241.1 9 rfl).trans (fx_9)))) (by omega) (by omega) (by omega) (by omega) (by omega) (by omega) (by omega) (by omega) (by omega) (by omega) (by omega)
                      · have _q : True := trivial
                        refine jx_if_eq (pc' := 203) (tg := 221) rfl rfl rfl (by decide) (by decide) (fun h538 => ?_) (fun h538 => ?_)
                        · have _q := h538
                          refine jx_ld (pc' := 222) (l' := L430) (st' := [.ref 66]) rfl (jl_aloadn gL430_0) ?_
                          refine jx_ar (pc' := 223) (st' := [.int (i32 (1)), .ref 66]) rfl rfl rfl rfl ?_
                          refine jx_ld (pc' := 224) (l' := L430) (st' := [.ref 66, .int (i32 (1)), .ref 66]) rfl (jl_aloadn gL430_0) ?_
                          have b539 : (-3000 : Int) ≤ G232 12 ∧ G232 12 ≤ 3002 := hW240.1 12
                          refine jr_get (pc' := 227) (i := 12) (v := .int (i32 (G232 12))) rfl rfl (by decide) rfl rfl ?_
                          refine jx_vr (pc' := 230) (as := [.int (i32 (1)), .int (i32 (G232 12))]) (st := []) rfl rfl rfl rfl ⟨rfl, rfl, Nat.le_of_ble_eq_true rfl⟩ rfl rfl (c_fail (dd := d) (hd := by omega) (hW := hW421) (kind := 1) (place := G232 12) (fk := fk2_236) (e_fk := show G232 16 = fk2_236 from (e245))  (h_kind := ⟨(by decide), (by decide)⟩) (h_place := ⟨(Int.le_trans (by decide : (-2147483648 : Int) ≤ -3000) b539.1), (Int.le_trans b539.2 (by decide : (3002 : Int) ≤ 2147483647))⟩)  (p_0 := by omega) (p_1 := by omega)) (fun o V' hq => ?_)
                          obtain ⟨G540, A541, fk2_542, rfl, rfl, hW543, hF544, e545, p546, -⟩ := hq
                          have hF548 := Fr_tr hF422 hF544 (Fr_sub (by decide)) (Fr_sub (by decide))
                          have hP549 := Pf_f hP424 hF544 (by decide)
                          have sf550 : ND A541 (n) (25) (nu) (0) (0) (0) (r234) (0) := ND_ag (by omega) (Ag_fr hF544 (by decide)) sf425
                          have sf551 : CA A541 Vs sb (n) (r234) ((kk + 1)) (pp) (n + 1) (nd2_238) := CA_ag (by omega) (Sg_fr hF544 (by decide)) (Ag_fr hF544 (by decide)) (congrFun (hF544.2 21 rfl) _) sf426
                          have sf552 : wA A541 Vs sb (pp + kk) (r234) (nd1) (nd2_238) := wA_ag (by omega) (Sg_fr hF544 (by decide)) (Ax_ag (Ag_fr hF544 (by decide))) sf427
                          have sf553 : NX A541 (r234) := NX_ag (by omega) (Ag_fr hF544 (by decide)) sf428
                          have bfk2_542 : (0 : Int) ≤ fk2_542 ∧ fk2_542 ≤ 6 := e545 ▸ hW543.1 16
                          refine .inl ⟨rfl, ?_⟩
                          refine jx_go (tg := 88) rfl rfl ?_
                          have z554 := tz_f (tk2_239)
                          exact c_readCall_at_88p (X := X) (d := d) (Vs := Vs) (sb := sb) (pb := pb) (c0 := c0) (c1 := c1) (G := G) (A := A) (T := T) (s := s) (ln := ln) (le := le) (at0 := at0) (fk := fk) (op0 := op0) (nd := nd) (tk0 := tk0) (li := li) (kd := kd) (nu := nu) (mp := mp) (pp := pp) (hd := hd) (hW := hW) (e_ln := e_ln) (e_le := e_le) (e_at0 := e_at0) (e_fk := e_fk) (e_op0 := e_op0) (e_nd := e_nd) (e_tk0 := e_tk0) (e_li := e_li) (e_kd := e_kd) (e_nu := e_nu) (e_mp := e_mp) (e_pp := e_pp) (i_SV := i_SV) (i_PQ := i_PQ) (h_s := h_s) (p_0 := p_0) (p_1 := p_1) (p_2 := p_2) (p_3 := p_3) (p_4 := p_4) (p_5 := p_5) (p_6 := p_6) (p_7 := p_7) (p_8 := p_8) L430 G540 A541 (n) (many) (r234) ((kk + (1))) (at2_235) (tk2_239) (fk2_542) (nd2_238) (op2_237) gL430_0 gL430_1 gL430_2 gL430_3 gL430_4 gL430_5 hW543 hF548 hP549 (((hF544.1 10 rfl).trans (e244))) (((hF544.1 11 rfl).trans (e248))) ((e545)) (((hF544.1 31 rfl).trans (e247))) (((hF544.1 15 rfl).trans (e246))) (((hF544.1 9 rfl).trans ((hF241.1 9 rfl).trans (fx_9)))) (by omega) (by omega) (by omega) (by omega) (by omega) (by omega) (by omega) (by omega) (by omega) (by omega) (by omega)
                        · have _q := h538
                          exact absurd h538 (by omega)
                    · have _q := h512
                      exact absurd h512 (by omega)
              · have _q := h283
                exact absurd h283 (by omega)
set_option maxRecDepth 20000 in
set_option maxHeartbeats 4000000 in
theorem c_readCall_at_57 {X : jX} {d : Nat} {Vs : Nat → Prop} {sb pb : Int} {c0 c1 : jC} {G : Nat → Int} {A : Nat → Nat → Int} {T : jH} {s : Int} {ln le at0 fk op0 nd tk0 li kd nu mp pp : Int} (hd : 71 ≤ d + 1) (hW : Wk G A) (e_ln : G 9 = ln) (e_le : A 4 (ln).toNat = le) (e_at0 : G 10 = at0) (e_fk : G 16 = fk) (e_op0 : G 15 = op0) (e_nd : G 31 = nd) (e_tk0 : G 11 = tk0) (e_li : G 3 = li) (e_kd : A 7 (s).toNat = kd) (e_nu : A 12 (s).toNat = nu) (e_mp : A 30 (nu).toNat = mp) (e_pp : A 29 (nu).toNat = pp) (i_SV : SV Vs sb G A) (i_PQ : PQ Vs sb pb G A) (h_s : (-2147483648 : Int) ≤ s ∧ s ≤ 2147483647) (p_0 : 0 ≤ op0 ∧ op0 ≤ 8) (p_1 : fk = 0) (p_2 : nd ≤ 2 * at0 - tz tk0 + 42) (p_3 : at0 ≤ le) (p_4 : ln < li) (p_5 : 0 ≤ s ∧ s ≤ 201) (p_6 : 1 ≤ tk0) (p_7 : kd = 14) (p_8 : SY Vs sb (s)) : ∀ (L : jL) (Gx : Nat → Int) (Ax : Nat → Nat → Int) (n many at1 tk1 fk1 nd1 op1 : Int), jGet L 0 = some (.ref 66) → jGet L 1 = some (.int (i32 (s))) → jGet L 2 = some (.int (i32 n)) → jGet L 3 = some (.int (i32 many)) → Wk Gx Ax → Fr [9, 10, 11, 12, 13, 14, 15, 16, 17, 18, 31] [15, 16, 17, 18, 19, 20, 21, 22, 24, 28] G A Gx Ax → Pf nd A Ax → Gx 10 = at1 → Gx 11 = tk1 → Gx 16 = fk1 → Gx 31 = nd1 → Gx 15 = op1 → Gx 9 = ln → ((-2147483648 : Int) ≤ n ∧ n ≤ 2147483647) → ((-2147483648 : Int) ≤ many ∧ many ≤ 2147483647) → (fk1 = 0) → (at0 ≤ at1) → (at1 ≤ le) → (nd ≤ n ∧ n ≤ 6998) → (nd ≤ nd1 ∧ n < nd1) → (0 ≤ many ∧ many ≤ 6) → (op1 = op0 + 1) → (op1 ≤ 8) → (nd1 - nd ≤ (2 * at1 - tz tk1) - (2 * at0 - tz tk0)) → (many = mp) → (1 ≤ many) → (nd1 = n + 1) → (ND Ax (n) (25) (nu) (0) (0) (0) (0) (0)) → wj X d jm305 (57, L, [], rV c0 c1 Gx Ax T) (fun o V' => ∃ (G' : Nat → Int) (A' : Nat → Nat → Int) (r : Int) (at2 : Int) (fk2 : Int) (nd2 : Int) (ln2 : Int), V' = rV c0 c1 G' A' T ∧ o = .inl (some (.int (i32 r))) ∧ Wk G' A' ∧ Fr [9, 10, 11, 12, 13, 14, 15, 16, 17, 18, 31] [15, 16, 17, 18, 19, 20, 21, 22, 24, 28] G A G' A' ∧ Pf nd A A' ∧ ((-2147483648 : Int) ≤ r ∧ r ≤ 2147483647) ∧ G' 10 = at2 ∧ G' 16 = fk2 ∧ G' 31 = nd2 ∧ G' 9 = ln2 ∧ (at0 ≤ at2) ∧ (at2 ≤ le) ∧ (nd ≤ nd2) ∧ (0 ≤ r) ∧ (r ≤ nd2) ∧ (((1 ≤ fk2) ∧ (ln2 = ln) ∧ (nd2 - nd ≤ 2 * at2 - 2 * at0 + 8)) ∨ ((fk2 = 0) ∧ (ln2 = ln + 1) ∧ (nd2 - nd ≤ 2 * at2 - (2 * at0 - tz tk0) + 0) ∧ (nd ≤ r) ∧ (r < nd2) ∧ (wL A' sb pb Vs (r) (nd) (nd2)) ∧ (NX A' (r))))) := by
  have hF0 : Fr [9, 10, 11, 12, 13, 14, 15, 16, 17, 18, 31] [15, 16, 17, 18, 19, 20, 21, 22, 24, 28] G A G A := Fr_rf
  have hP0 : Pf nd A A := Pf_rf
  have b_ln : (0 : Int) ≤ ln ∧ ln ≤ 3000 := e_ln ▸ hW.1 9
  have b_le : (0 : Int) ≤ le ∧ le ≤ 3000 := e_le ▸ hW.2 4 _
  have b_at0 : (0 : Int) ≤ at0 ∧ at0 ≤ 3002 := e_at0 ▸ hW.1 10
  have b_fk : (0 : Int) ≤ fk ∧ fk ≤ 6 := e_fk ▸ hW.1 16
  have b_op0 : (-2147483648 : Int) ≤ op0 ∧ op0 ≤ 2147483647 := e_op0 ▸ hW.1 15
  have b_nd : (0 : Int) ≤ nd ∧ nd ≤ 6999 := e_nd ▸ hW.1 31
  have z_tk0 := tz_f tk0
  have b_tk0 : (0 : Int) ≤ tk0 ∧ tk0 ≤ 5 := e_tk0 ▸ hW.1 11
  have b_li : (0 : Int) ≤ li ∧ li ≤ 3000 := e_li ▸ hW.1 3
  have b_kd : (0 : Int) ≤ kd ∧ kd ≤ 14 := e_kd ▸ hW.2 7 _
  have b_nu : (0 : Int) ≤ nu ∧ nu ≤ 24 := e_nu ▸ hW.2 12 _
  have b_mp : (0 : Int) ≤ mp ∧ mp ≤ 6 := e_mp ▸ hW.2 30 _
  have b_pp : (0 : Int) ≤ pp ∧ pp ≤ 202 := e_pp ▸ hW.2 29 _
  have pq := PQ_at i_PQ p_8 (e_kd.trans (by omega)) e_nu e_mp e_pp
  intro L Gx Ax n many at1 tk1 fk1 nd1 op1 gL_0 gL_1 gL_2 gL_3 hWx hFx hPx ex_at1 ex_tk1 ex_fk1 ex_nd1 ex_op1 fx_9 rx_n rx_many iv_0 iv_1 iv_2 iv_3 iv_4 iv_5 iv_6 iv_7 iv_8 iv_9 iv_10 iv_11 iv_12
  have b_at1 : (0 : Int) ≤ at1 ∧ at1 ≤ 3002 := ex_at1 ▸ hWx.1 10
  have z_tk1 := tz_f tk1
  have b_tk1 : (0 : Int) ≤ tk1 ∧ tk1 ≤ 5 := ex_tk1 ▸ hWx.1 11
  have b_fk1 : (0 : Int) ≤ fk1 ∧ fk1 ≤ 6 := ex_fk1 ▸ hWx.1 16
  have b_nd1 : (0 : Int) ≤ nd1 ∧ nd1 ≤ 6999 := ex_nd1 ▸ hWx.1 31
  have b_op1 : (-2147483648 : Int) ≤ op1 ∧ op1 ≤ 2147483647 := ex_op1 ▸ hWx.1 15
  refine jx_ld (pc' := 58) (l' := L) (st' := [.ref 66]) rfl (jl_aloadn gL_0) ?_
  refine jx_vr (pc' := 61) (as := []) (st := []) rfl rfl rfl rfl ⟨rfl, rfl, Nat.le_of_ble_eq_true rfl⟩ rfl rfl (c_bad (dd := d) (hd := by omega) (hW := hWx)  (fk := fk1) (e_fk := show Gx 16 = fk1 from (ex_fk1))    ) (fun o V' hq => ?_)
  obtain ⟨r555, rfl, rfl, b556, q557⟩ := hq
  refine .inr ⟨_, rfl, ?_⟩
  rcases q557 with ⟨rfl, a558⟩ | ⟨rfl, a559⟩
  · have _q : True := trivial
    exfalso
    omega
  · have _q : True := trivial
    refine jx_if_ne (pc' := 64) (tg := 82) rfl rfl rfl (by decide) (by decide) (fun h560 => ?_) (fun h560 => ?_)
    · have _q := h560
      exact absurd h560 (by omega)
    · have _q := h560
      refine jx_ld (pc' := 65) (l' := L) (st' := [.ref 66]) rfl (jl_aloadn gL_0) ?_
      refine jx_ar (pc' := 67) (st' := [.int (i32 (41)), .ref 66]) rfl rfl rfl rfl ?_
      have b561 : (-2147483648 : Int) ≤ Gx 13 ∧ Gx 13 ≤ 2147483647 := hWx.1 13
      refine jx_vr (pc' := 70) (as := [.int (i32 (41))]) (st := []) rfl rfl rfl rfl ⟨rfl, rfl, Nat.le_of_ble_eq_true rfl⟩ rfl rfl (c_is (dd := d) (hd := by omega) (hW := hWx) (k := 41) (tk := tk1) (e_tk := show Gx 11 = tk1 from (ex_tk1)) (tn := Gx 13) (e_tn := show Gx 13 = Gx 13 from rfl)  (h_k := ⟨(by decide), (by decide)⟩)  ) (fun o V' hq => ?_)
      obtain ⟨r562, rfl, rfl, b563, q564⟩ := hq
      refine .inr ⟨_, rfl, ?_⟩
      rcases q564 with ⟨rfl, a565, a566, a567⟩ | rfl
      · have _q : True := trivial
        refine jx_if_eq (pc' := 73) (tg := 82) rfl rfl rfl (by decide) (by decide) (fun h568 => ?_) (fun h568 => ?_)
        · have _q := h568
          exact absurd h568 (by omega)
        · have _q := h568
          refine jx_ld (pc' := 74) (l' := L) (st' := [.ref 66]) rfl (jl_aloadn gL_0) ?_
          refine jx_ar (pc' := 75) (st' := [.int (i32 (4)), .ref 66]) rfl rfl rfl rfl ?_
          refine jx_ld (pc' := 76) (l' := L) (st' := [.ref 66, .int (i32 (4)), .ref 66]) rfl (jl_aloadn gL_0) ?_
          have b569 : (-3000 : Int) ≤ Gx 12 ∧ Gx 12 ≤ 3002 := hWx.1 12
          refine jr_get (pc' := 79) (i := 12) (v := .int (i32 (Gx 12))) rfl rfl (by decide) rfl rfl ?_
          refine jx_vr (pc' := 82) (as := [.int (i32 (4)), .int (i32 (Gx 12))]) (st := []) rfl rfl rfl rfl ⟨rfl, rfl, Nat.le_of_ble_eq_true rfl⟩ rfl rfl (c_fail (dd := d) (hd := by omega) (hW := hWx) (kind := 4) (place := Gx 12) (fk := fk1) (e_fk := show Gx 16 = fk1 from (ex_fk1))  (h_kind := ⟨(by decide), (by decide)⟩) (h_place := ⟨(Int.le_trans (by decide : (-2147483648 : Int) ≤ -3000) b569.1), (Int.le_trans b569.2 (by decide : (3002 : Int) ≤ 2147483647))⟩)  (p_0 := by omega) (p_1 := by omega)) (fun o V' hq => ?_)
          obtain ⟨G570, A571, fk2_572, rfl, rfl, hW573, hF574, e575, p576, -⟩ := hq
          have hF578 := Fr_tr hFx hF574 (Fr_sub (by decide)) (Fr_sub (by decide))
          have hP579 := Pf_f hPx hF574 (by decide)
          have sf580 : ND A571 (n) (25) (nu) (0) (0) (0) (0) (0) := ND_ag (by omega) (Ag_fr hF574 (by decide)) iv_12
          have bfk2_572 : (0 : Int) ≤ fk2_572 ∧ fk2_572 ≤ 6 := e575 ▸ hW573.1 16
          refine .inl ⟨rfl, ?_⟩
          refine jx_ar (pc' := 83) (st' := [.int (i32 (0))]) rfl rfl rfl rfl ?_
          refine jx_ld (pc' := 85) (l' := jSto1 L 4 (.int (i32 (0)))) (st' := []) rfl rfl ?_
          obtain ⟨L581, eL581⟩ : ∃ q, q = jSto1 L 4 (.int (i32 (0))) := ⟨_, rfl⟩
          rw [← eL581]
          have gL581_0 : jGet L581 0 = some (.ref 66) := eL581 ▸ jg_ne (by decide) gL_0 rfl
          have gL581_1 : jGet L581 1 = some (.int (i32 (s))) := eL581 ▸ jg_ne (by decide) gL_1 rfl
          have gL581_2 : jGet L581 2 = some (.int (i32 (n))) := eL581 ▸ jg_ne (by decide) gL_2 rfl
          have gL581_3 : jGet L581 3 = some (.int (i32 (many))) := eL581 ▸ jg_ne (by decide) gL_3 rfl
          have gL581_4 : jGet L581 4 = some (.int (i32 (0))) := eL581 ▸ jg_eq
          refine jx_ar (pc' := 86) (st' := [.int (i32 (0))]) rfl rfl rfl rfl ?_
          refine jx_ld (pc' := 88) (l' := jSto1 L581 5 (.int (i32 (0)))) (st' := []) rfl rfl ?_
          obtain ⟨L582, eL582⟩ : ∃ q, q = jSto1 L581 5 (.int (i32 (0))) := ⟨_, rfl⟩
          rw [← eL582]
          have gL582_0 : jGet L582 0 = some (.ref 66) := eL582 ▸ jg_ne (by decide) gL581_0 rfl
          have gL582_1 : jGet L582 1 = some (.int (i32 (s))) := eL582 ▸ jg_ne (by decide) gL581_1 rfl
          have gL582_2 : jGet L582 2 = some (.int (i32 (n))) := eL582 ▸ jg_ne (by decide) gL581_2 rfl
          have gL582_3 : jGet L582 3 = some (.int (i32 (many))) := eL582 ▸ jg_ne (by decide) gL581_3 rfl
          have gL582_4 : jGet L582 4 = some (.int (i32 (0))) := eL582 ▸ jg_ne (by decide) gL581_4 rfl
          have gL582_5 : jGet L582 5 = some (.int (i32 (0))) := eL582 ▸ jg_eq
          have z583 := tz_f (tk1)
          exact c_readCall_at_88p (X := X) (d := d) (Vs := Vs) (sb := sb) (pb := pb) (c0 := c0) (c1 := c1) (G := G) (A := A) (T := T) (s := s) (ln := ln) (le := le) (at0 := at0) (fk := fk) (op0 := op0) (nd := nd) (tk0 := tk0) (li := li) (kd := kd) (nu := nu) (mp := mp) (pp := pp) (hd := hd) (hW := hW) (e_ln := e_ln) (e_le := e_le) (e_at0 := e_at0) (e_fk := e_fk) (e_op0 := e_op0) (e_nd := e_nd) (e_tk0 := e_tk0) (e_li := e_li) (e_kd := e_kd) (e_nu := e_nu) (e_mp := e_mp) (e_pp := e_pp) (i_SV := i_SV) (i_PQ := i_PQ) (h_s := h_s) (p_0 := p_0) (p_1 := p_1) (p_2 := p_2) (p_3 := p_3) (p_4 := p_4) (p_5 := p_5) (p_6 := p_6) (p_7 := p_7) (p_8 := p_8) L582 G570 A571 (n) (many) (0) (0) (at1) (tk1) (fk2_572) (nd1) (op1) gL582_0 gL582_1 gL582_2 gL582_3 gL582_4 gL582_5 hW573 hF578 hP579 (((hF574.1 10 rfl).trans (ex_at1))) (((hF574.1 11 rfl).trans (ex_tk1))) ((e575)) (((hF574.1 31 rfl).trans (ex_nd1))) (((hF574.1 15 rfl).trans (ex_op1))) (((hF574.1 9 rfl).trans (fx_9))) (by omega) (by omega) (by omega) (by omega) (by omega) (by omega) (by omega) (by omega) (by omega) (by omega) (by omega)
      · have _q : True := trivial
        refine jx_if_eq (pc' := 73) (tg := 82) rfl rfl rfl (by decide) (by decide) (fun h584 => ?_) (fun h584 => ?_)
        · have _q := h584
          refine jx_ar (pc' := 83) (st' := [.int (i32 (0))]) rfl rfl rfl rfl ?_
          refine jx_ld (pc' := 85) (l' := jSto1 L 4 (.int (i32 (0)))) (st' := []) rfl rfl ?_
          obtain ⟨L585, eL585⟩ : ∃ q, q = jSto1 L 4 (.int (i32 (0))) := ⟨_, rfl⟩
          rw [← eL585]
          have gL585_0 : jGet L585 0 = some (.ref 66) := eL585 ▸ jg_ne (by decide) gL_0 rfl
          have gL585_1 : jGet L585 1 = some (.int (i32 (s))) := eL585 ▸ jg_ne (by decide) gL_1 rfl
          have gL585_2 : jGet L585 2 = some (.int (i32 (n))) := eL585 ▸ jg_ne (by decide) gL_2 rfl
          have gL585_3 : jGet L585 3 = some (.int (i32 (many))) := eL585 ▸ jg_ne (by decide) gL_3 rfl
          have gL585_4 : jGet L585 4 = some (.int (i32 (0))) := eL585 ▸ jg_eq
          refine jx_ar (pc' := 86) (st' := [.int (i32 (0))]) rfl rfl rfl rfl ?_
          refine jx_ld (pc' := 88) (l' := jSto1 L585 5 (.int (i32 (0)))) (st' := []) rfl rfl ?_
          obtain ⟨L586, eL586⟩ : ∃ q, q = jSto1 L585 5 (.int (i32 (0))) := ⟨_, rfl⟩
          rw [← eL586]
          have gL586_0 : jGet L586 0 = some (.ref 66) := eL586 ▸ jg_ne (by decide) gL585_0 rfl
          have gL586_1 : jGet L586 1 = some (.int (i32 (s))) := eL586 ▸ jg_ne (by decide) gL585_1 rfl
          have gL586_2 : jGet L586 2 = some (.int (i32 (n))) := eL586 ▸ jg_ne (by decide) gL585_2 rfl
          have gL586_3 : jGet L586 3 = some (.int (i32 (many))) := eL586 ▸ jg_ne (by decide) gL585_3 rfl
          have gL586_4 : jGet L586 4 = some (.int (i32 (0))) := eL586 ▸ jg_ne (by decide) gL585_4 rfl
          have gL586_5 : jGet L586 5 = some (.int (i32 (0))) := eL586 ▸ jg_eq
          have z587 := tz_f (tk1)
          exact c_readCall_at_88 (X := X) (d := d) (Vs := Vs) (sb := sb) (pb := pb) (c0 := c0) (c1 := c1) (G := G) (A := A) (T := T) (s := s) (ln := ln) (le := le) (at0 := at0) (fk := fk) (op0 := op0) (nd := nd) (tk0 := tk0) (li := li) (kd := kd) (nu := nu) (mp := mp) (pp := pp) (hd := hd) (hW := hW) (e_ln := e_ln) (e_le := e_le) (e_at0 := e_at0) (e_fk := e_fk) (e_op0 := e_op0) (e_nd := e_nd) (e_tk0 := e_tk0) (e_li := e_li) (e_kd := e_kd) (e_nu := e_nu) (e_mp := e_mp) (e_pp := e_pp) (i_SV := i_SV) (i_PQ := i_PQ) (h_s := h_s) (p_0 := p_0) (p_1 := p_1) (p_2 := p_2) (p_3 := p_3) (p_4 := p_4) (p_5 := p_5) (p_6 := p_6) (p_7 := p_7) (p_8 := p_8) _ L586 Gx Ax (n) (many) (0) (0) (at1) (tk1) (fk1) (nd1) (op1) rfl gL586_0 gL586_1 gL586_2 gL586_3 gL586_4 gL586_5 hWx hFx hPx ((ex_at1)) ((ex_tk1)) ((ex_fk1)) ((ex_nd1)) ((ex_op1)) ((fx_9)) (by omega) (by omega) (by omega) (by omega) (by omega) (by omega) (by omega) (by omega) (by omega) (by omega) (by omega) (by omega) (by omega) (by omega) (by omega) (by omega) (by omega) (by omega) (by omega) ((ND_sf iv_12)) ((CA_eq (CA_nil (lo := n + 1) (ND_f0 iv_12)) (by omega) (by omega) (by omega) (by omega) (by omega)))
        · have _q := h584
          exact absurd h584 (by omega)
set_option maxRecDepth 20000 in
set_option maxHeartbeats 4000000 in
theorem c_readCall {X : jX} {dd : Nat} {Vs : Nat → Prop} {sb pb : Int} {c0 c1 : jC} {G : Nat → Int} {A : Nat → Nat → Int} {T : jH} {s : Int} {ln le at0 fk op0 nd tk0 li kd nu mp pp : Int} (hd : 71 ≤ dd) (hW : Wk G A) (e_ln : G 9 = ln) (e_le : A 4 (ln).toNat = le) (e_at0 : G 10 = at0) (e_fk : G 16 = fk) (e_op0 : G 15 = op0) (e_nd : G 31 = nd) (e_tk0 : G 11 = tk0) (e_li : G 3 = li) (e_kd : A 7 (s).toNat = kd) (e_nu : A 12 (s).toNat = nu) (e_mp : A 30 (nu).toNat = mp) (e_pp : A 29 (nu).toNat = pp) (i_SV : SV Vs sb G A) (i_PQ : PQ Vs sb pb G A) (h_s : (-2147483648 : Int) ≤ s ∧ s ≤ 2147483647) (p_0 : 0 ≤ op0 ∧ op0 ≤ 8) (p_1 : fk = 0) (p_2 : nd ≤ 2 * at0 - tz tk0 + 42) (p_3 : at0 ≤ le) (p_4 : ln < li) (p_5 : 0 ≤ s ∧ s ≤ 201) (p_6 : 1 ≤ tk0) (p_7 : kd = 14) (p_8 : SY Vs sb (s)) : wk X dd 305 [.ref 66, .int (i32 s)] (rV c0 c1 G A T) (fun o V' => ∃ (G' : Nat → Int) (A' : Nat → Nat → Int) (r : Int) (at2 : Int) (fk2 : Int) (nd2 : Int) (ln2 : Int), V' = rV c0 c1 G' A' T ∧ o = .inl (some (.int (i32 r))) ∧ Wk G' A' ∧ Fr [9, 10, 11, 12, 13, 14, 15, 16, 17, 18, 31] [15, 16, 17, 18, 19, 20, 21, 22, 24, 28] G A G' A' ∧ Pf nd A A' ∧ ((-2147483648 : Int) ≤ r ∧ r ≤ 2147483647) ∧ G' 10 = at2 ∧ G' 16 = fk2 ∧ G' 31 = nd2 ∧ G' 9 = ln2 ∧ (at0 ≤ at2) ∧ (at2 ≤ le) ∧ (nd ≤ nd2) ∧ (0 ≤ r) ∧ (r ≤ nd2) ∧ (((1 ≤ fk2) ∧ (ln2 = ln) ∧ (nd2 - nd ≤ 2 * at2 - 2 * at0 + 8)) ∨ ((fk2 = 0) ∧ (ln2 = ln + 1) ∧ (nd2 - nd ≤ 2 * at2 - (2 * at0 - tz tk0) + 0) ∧ (nd ≤ r) ∧ (r < nd2) ∧ (wL A' sb pb Vs (r) (nd) (nd2)) ∧ (NX A' (r))))) := by
  obtain ⟨d, rfl⟩ : ∃ d, dd = d + 1 := ⟨dd - 1, by omega⟩
  refine wk_of (e := jm305) rfl (Nat.le_of_ble_eq_true rfl) ?_
  show wj X d jm305 (0, [(0, .ref 66), (1, .int (i32 (s)))], [], rV c0 c1 G A T) _
  have hF0 : Fr [9, 10, 11, 12, 13, 14, 15, 16, 17, 18, 31] [15, 16, 17, 18, 19, 20, 21, 22, 24, 28] G A G A := Fr_rf
  have hP0 : Pf nd A A := Pf_rf
  have b_ln : (0 : Int) ≤ ln ∧ ln ≤ 3000 := e_ln ▸ hW.1 9
  have b_le : (0 : Int) ≤ le ∧ le ≤ 3000 := e_le ▸ hW.2 4 _
  have b_at0 : (0 : Int) ≤ at0 ∧ at0 ≤ 3002 := e_at0 ▸ hW.1 10
  have b_fk : (0 : Int) ≤ fk ∧ fk ≤ 6 := e_fk ▸ hW.1 16
  have b_op0 : (-2147483648 : Int) ≤ op0 ∧ op0 ≤ 2147483647 := e_op0 ▸ hW.1 15
  have b_nd : (0 : Int) ≤ nd ∧ nd ≤ 6999 := e_nd ▸ hW.1 31
  have z_tk0 := tz_f tk0
  have b_tk0 : (0 : Int) ≤ tk0 ∧ tk0 ≤ 5 := e_tk0 ▸ hW.1 11
  have b_li : (0 : Int) ≤ li ∧ li ≤ 3000 := e_li ▸ hW.1 3
  have b_kd : (0 : Int) ≤ kd ∧ kd ≤ 14 := e_kd ▸ hW.2 7 _
  have b_nu : (0 : Int) ≤ nu ∧ nu ≤ 24 := e_nu ▸ hW.2 12 _
  have b_mp : (0 : Int) ≤ mp ∧ mp ≤ 6 := e_mp ▸ hW.2 30 _
  have b_pp : (0 : Int) ≤ pp ∧ pp ≤ 202 := e_pp ▸ hW.2 29 _
  have pq := PQ_at i_PQ p_8 (e_kd.trans (by omega)) e_nu e_mp e_pp
  refine jx_ld (pc' := 1) (l' := [(0, .ref 66), (1, .int (i32 (s)))]) (st' := [.ref 66]) rfl (jl_aloadn rfl) ?_
  refine jx_ar (pc' := 3) (st' := [.int (i32 (25)), .ref 66]) rfl rfl rfl rfl ?_
  refine jx_ld (pc' := 4) (l' := [(0, .ref 66), (1, .int (i32 (s)))]) (st' := [.ref 66, .int (i32 (25)), .ref 66]) rfl (jl_aloadn rfl) ?_
  refine jr_get (pc' := 7) (i := 26) (v := .ref 79) rfl rfl (by decide) rfl rfl ?_
  refine jx_ld (pc' := 8) (l' := [(0, .ref 66), (1, .int (i32 (s)))]) (st' := [.int (i32 (s)), .ref 79, .int (i32 (25)), .ref 66]) rfl (jl_iloadn rfl) ?_
  refine jr_ldv (pc' := 9) (i := 12) (m := 260) (z := s) (y := nu) rfl (by decide) rfl (by decide) (by omega) (by omega) rfl (show A 12 (s).toNat = nu from (e_nu)) ?_
  refine jx_ar (pc' := 10) (st' := [.int (i32 (0)), .int (i32 (nu)), .int (i32 (25)), .ref 66]) rfl rfl rfl rfl ?_
  refine jx_ar (pc' := 11) (st' := [.int (i32 (0)), .int (i32 (0)), .int (i32 (nu)), .int (i32 (25)), .ref 66]) rfl rfl rfl rfl ?_
  refine jx_ar (pc' := 12) (st' := [.int (i32 (0)), .int (i32 (0)), .int (i32 (0)), .int (i32 (nu)), .int (i32 (25)), .ref 66]) rfl rfl rfl rfl ?_
  refine jx_vr (pc' := 15) (as := [.int (i32 (25)), .int (i32 (nu)), .int (i32 (0)), .int (i32 (0)), .int (i32 (0))]) (st := []) rfl rfl rfl rfl ⟨rfl, rfl, Nat.le_of_ble_eq_true rfl⟩ rfl rfl (c_node (dd := d) (hd := by omega) (hW := hW) (kind := 25) (a := nu) (b := 0) (c := 0) (e := 0) (nd := nd) (e_nd := show G 31 = nd from (e_nd))  (h_kind := ⟨(by decide), (by decide)⟩) (h_a := ⟨(Int.le_trans (by decide : (-2147483648 : Int) ≤ 0) b_nu.1), (Int.le_trans b_nu.2 (by decide : (24 : Int) ≤ 2147483647))⟩) (h_b := ⟨(by decide), (by decide)⟩) (h_c := ⟨(by decide), (by decide)⟩) (h_e := ⟨(by decide), (by decide)⟩)  (p_0 := by omega) (p_1 := by omega)) (fun o V' hq => ?_)
  obtain ⟨G588, A589, nd2_590, rfl, rfl, hW591, hF592, hQ593, e594, p595, p596, -⟩ := hq
  have hF598 := Fr_tr hF0 hF592 (Fr_sub (by decide)) (Fr_sub (by decide))
  have hP599 := Pf_tr hP0 hQ593 (by omega)
  have bnd2_590 : (0 : Int) ≤ nd2_590 ∧ nd2_590 ≤ 6999 := e594 ▸ hW591.1 31
  refine .inr ⟨_, rfl, ?_⟩
  refine jx_ld (pc' := 16) (l' := jSto1 [(0, .ref 66), (1, .int (i32 (s)))] 2 (.int (i32 (nd)))) (st' := []) rfl rfl ?_
  obtain ⟨L600, eL600⟩ : ∃ q, q = jSto1 [(0, .ref 66), (1, .int (i32 (s)))] 2 (.int (i32 (nd))) := ⟨_, rfl⟩
  rw [← eL600]
  have gL600_0 : jGet L600 0 = some (.ref 66) := eL600 ▸ jg_ne (by decide) (rfl : jGet [(0, .ref 66), (1, .int (i32 (s)))] 0 = some (.ref 66)) rfl
  have gL600_1 : jGet L600 1 = some (.int (i32 (s))) := eL600 ▸ jg_ne (by decide) (rfl : jGet [(0, .ref 66), (1, .int (i32 (s)))] 1 = some (.int (i32 (s)))) rfl
  have gL600_2 : jGet L600 2 = some (.int (i32 (nd))) := eL600 ▸ jg_eq
  refine jx_ld (pc' := 17) (l' := L600) (st' := [.ref 66]) rfl (jl_aloadn gL600_0) ?_
  refine jr_get (pc' := 20) (i := 48) (v := .ref 97) rfl rfl (by decide) rfl rfl ?_
  refine jx_ld (pc' := 21) (l' := L600) (st' := [.ref 66, .ref 97]) rfl (jl_aloadn gL600_0) ?_
  refine jr_get (pc' := 24) (i := 26) (v := .ref 79) rfl rfl (by decide) rfl rfl ?_
  refine jx_ld (pc' := 25) (l' := L600) (st' := [.int (i32 (s)), .ref 79, .ref 97]) rfl (jl_iloadn gL600_1) ?_
  refine jr_ldv (pc' := 26) (i := 12) (m := 260) (z := s) (y := nu) rfl (by decide) rfl (by decide) (by omega) (by omega) rfl (show A589 12 (s).toNat = nu from (congrFun (hF592.2 12 rfl) _).trans (e_nu)) ?_
  refine jr_ldv (pc' := 27) (i := 30) (m := 25) (z := nu) (y := mp) rfl (by decide) rfl (by decide) (Int.le_trans (by decide : (0 : Int) ≤ 0) b_nu.1) (Int.lt_of_le_of_lt b_nu.2 (by decide : (24 : Int) < ((25 : Nat) : Int))) rfl (show A589 30 (nu).toNat = mp from (congrFun (hF592.2 30 rfl) _).trans (e_mp)) ?_
  refine jx_ld (pc' := 28) (l' := jSto1 L600 3 (.int (i32 (mp)))) (st' := []) rfl rfl ?_
  obtain ⟨L601, eL601⟩ : ∃ q, q = jSto1 L600 3 (.int (i32 (mp))) := ⟨_, rfl⟩
  rw [← eL601]
  have gL601_0 : jGet L601 0 = some (.ref 66) := eL601 ▸ jg_ne (by decide) gL600_0 rfl
  have gL601_1 : jGet L601 1 = some (.int (i32 (s))) := eL601 ▸ jg_ne (by decide) gL600_1 rfl
  have gL601_2 : jGet L601 2 = some (.int (i32 (nd))) := eL601 ▸ jg_ne (by decide) gL600_2 rfl
  have gL601_3 : jGet L601 3 = some (.int (i32 (mp))) := eL601 ▸ jg_eq
  refine jx_ld (pc' := 29) (l' := L601) (st' := [.ref 66]) rfl (jl_aloadn gL601_0) ?_
  refine jx_vr (pc' := 32) (as := []) (st := []) rfl rfl rfl rfl ⟨rfl, rfl, Nat.le_of_ble_eq_true rfl⟩ rfl rfl (c_open (dd := d) (hd := by omega) (hW := hW591)  (fk := fk) (e_fk := show G588 16 = fk from ((hF592.1 16 rfl).trans (e_fk))) (op0 := op0) (e_op0 := show G588 15 = op0 from ((hF592.1 15 rfl).trans (e_op0)))    (p_0 := by omega)) (fun o V' hq => ?_)
  obtain ⟨G602, A603, fk2_604, op2_605, rfl, rfl, hW606, hF607, e608, e609, p610, q611⟩ := hq
  have hF612 := Fr_tr hF598 hF607 (Fr_sub (by decide)) (Fr_sub (by decide))
  have hP613 := Pf_f hP599 hF607 (by decide)
  have sf614 : ND A603 (nd) (25) (nu) (0) (0) (0) (0) (0) := ND_ag (by omega) (Ag_fr hF607 (by decide)) p596
  have bfk2_604 : (0 : Int) ≤ fk2_604 ∧ fk2_604 ≤ 6 := e608 ▸ hW606.1 16
  have bop2_605 : (-2147483648 : Int) ≤ op2_605 ∧ op2_605 ≤ 2147483647 := e609 ▸ hW606.1 15
  refine .inl ⟨rfl, ?_⟩
  rcases q611 with a615 | ⟨a616, a617, a618⟩
  · have _q : True := trivial
    refine jx_ld (pc' := 33) (l' := L601) (st' := [.ref 66]) rfl (jl_aloadn gL601_0) ?_
    refine jx_ar (pc' := 34) (st' := [.int (i32 (1)), .ref 66]) rfl rfl rfl rfl ?_
    refine jx_vr (pc' := 37) (as := [.int (i32 (1))]) (st := []) rfl rfl rfl rfl ⟨rfl, rfl, Nat.le_of_ble_eq_true rfl⟩ rfl rfl (c_need (dd := d) (hd := by omega) (hW := hW606) (g := 1) (ln := ln) (e_ln := show G602 9 = ln from ((hF607.1 9 rfl).trans ((hF592.1 9 rfl).trans (e_ln)))) (le := le) (e_le := show A603 4 (ln).toNat = le from (congrFun ((hF607.2 4 rfl).trans (hF592.2 4 rfl)) _).trans (e_le)) (at0 := at0) (e_at0 := show G602 10 = at0 from ((hF607.1 10 rfl).trans ((hF592.1 10 rfl).trans (e_at0)))) (fk := fk2_604) (e_fk := show G602 16 = fk2_604 from (e608)) (tk0 := tk0) (e_tk0 := show G602 11 = tk0 from ((hF607.1 11 rfl).trans ((hF592.1 11 rfl).trans (e_tk0))))  (h_g := ⟨(by decide), (by decide)⟩)  (p_0 := by omega)) (fun o V' hq => ?_)
    obtain ⟨G619, A620, at2_621, tk2_622, fk2_623, rfl, rfl, hW624, hF625, e626, e627, e628, p629, p630, q631⟩ := hq
    have hF632 := Fr_tr hF612 hF625 (Fr_sub (by decide)) (Fr_sub (by decide))
    have hP633 := Pf_f hP613 hF625 (by decide)
    have sf634 : ND A620 (nd) (25) (nu) (0) (0) (0) (0) (0) := ND_ag (by omega) (Ag_fr hF625 (by decide)) sf614
    have bat2_621 : (0 : Int) ≤ at2_621 ∧ at2_621 ≤ 3002 := e626 ▸ hW624.1 10
    have ztk2_622 := tz_b tk2_622
    have btk2_622 : (0 : Int) ≤ tk2_622 ∧ tk2_622 ≤ 5 := e627 ▸ hW624.1 11
    have bfk2_623 : (0 : Int) ≤ fk2_623 ∧ fk2_623 ≤ 6 := e628 ▸ hW624.1 16
    refine .inl ⟨rfl, ?_⟩
    rcases q631 with ⟨a635, a636, a637, a638⟩ | ⟨a639, a640, a641, a642⟩
    · have _q : True := trivial
      refine jx_ld (pc' := 38) (l' := L601) (st' := [.int (i32 (mp))]) rfl (jl_iloadn gL601_3) ?_
      refine jx_if_ne (pc' := 41) (tg := 57) rfl rfl rfl (Int.le_trans (by decide : (-2147483648 : Int) ≤ 0) b_mp.1) (Int.le_trans b_mp.2 (by decide : (6 : Int) ≤ 2147483647)) (fun h643 => ?_) (fun h643 => ?_)
      · have _q := h643
        refine jx_ld (pc' := 58) (l' := L601) (st' := [.ref 66]) rfl (jl_aloadn gL601_0) ?_
        refine jx_vr (pc' := 61) (as := []) (st := []) rfl rfl rfl rfl ⟨rfl, rfl, Nat.le_of_ble_eq_true rfl⟩ rfl rfl (c_bad (dd := d) (hd := by omega) (hW := hW624)  (fk := fk2_623) (e_fk := show G619 16 = fk2_623 from (e628))    ) (fun o V' hq => ?_)
        obtain ⟨r644, rfl, rfl, b645, q646⟩ := hq
        refine .inr ⟨_, rfl, ?_⟩
        rcases q646 with ⟨rfl, a647⟩ | ⟨rfl, a648⟩
        · have _q : True := trivial
          refine jx_if_ne (pc' := 64) (tg := 82) rfl rfl rfl (by decide) (by decide) (fun h649 => ?_) (fun h649 => ?_)
          · have _q := h649
            refine jx_ar (pc' := 83) (st' := [.int (i32 (0))]) rfl rfl rfl rfl ?_
            refine jx_ld (pc' := 85) (l' := jSto1 L601 4 (.int (i32 (0)))) (st' := []) rfl rfl ?_
            obtain ⟨L650, eL650⟩ : ∃ q, q = jSto1 L601 4 (.int (i32 (0))) := ⟨_, rfl⟩
            rw [← eL650]
            have gL650_0 : jGet L650 0 = some (.ref 66) := eL650 ▸ jg_ne (by decide) gL601_0 rfl
            have gL650_1 : jGet L650 1 = some (.int (i32 (s))) := eL650 ▸ jg_ne (by decide) gL601_1 rfl
            have gL650_2 : jGet L650 2 = some (.int (i32 (nd))) := eL650 ▸ jg_ne (by decide) gL601_2 rfl
            have gL650_3 : jGet L650 3 = some (.int (i32 (mp))) := eL650 ▸ jg_ne (by decide) gL601_3 rfl
            have gL650_4 : jGet L650 4 = some (.int (i32 (0))) := eL650 ▸ jg_eq
            refine jx_ar (pc' := 86) (st' := [.int (i32 (0))]) rfl rfl rfl rfl ?_
            refine jx_ld (pc' := 88) (l' := jSto1 L650 5 (.int (i32 (0)))) (st' := []) rfl rfl ?_
            obtain ⟨L651, eL651⟩ : ∃ q, q = jSto1 L650 5 (.int (i32 (0))) := ⟨_, rfl⟩
            rw [← eL651]
            have gL651_0 : jGet L651 0 = some (.ref 66) := eL651 ▸ jg_ne (by decide) gL650_0 rfl
            have gL651_1 : jGet L651 1 = some (.int (i32 (s))) := eL651 ▸ jg_ne (by decide) gL650_1 rfl
            have gL651_2 : jGet L651 2 = some (.int (i32 (nd))) := eL651 ▸ jg_ne (by decide) gL650_2 rfl
            have gL651_3 : jGet L651 3 = some (.int (i32 (mp))) := eL651 ▸ jg_ne (by decide) gL650_3 rfl
            have gL651_4 : jGet L651 4 = some (.int (i32 (0))) := eL651 ▸ jg_ne (by decide) gL650_4 rfl
            have gL651_5 : jGet L651 5 = some (.int (i32 (0))) := eL651 ▸ jg_eq
            have z652 := tz_f (tk2_622)
            exact c_readCall_at_88p (X := X) (d := d) (Vs := Vs) (sb := sb) (pb := pb) (c0 := c0) (c1 := c1) (G := G) (A := A) (T := T) (s := s) (ln := ln) (le := le) (at0 := at0) (fk := fk) (op0 := op0) (nd := nd) (tk0 := tk0) (li := li) (kd := kd) (nu := nu) (mp := mp) (pp := pp) (hd := hd) (hW := hW) (e_ln := e_ln) (e_le := e_le) (e_at0 := e_at0) (e_fk := e_fk) (e_op0 := e_op0) (e_nd := e_nd) (e_tk0 := e_tk0) (e_li := e_li) (e_kd := e_kd) (e_nu := e_nu) (e_mp := e_mp) (e_pp := e_pp) (i_SV := i_SV) (i_PQ := i_PQ) (h_s := h_s) (p_0 := p_0) (p_1 := p_1) (p_2 := p_2) (p_3 := p_3) (p_4 := p_4) (p_5 := p_5) (p_6 := p_6) (p_7 := p_7) (p_8 := p_8) L651 G619 A620 (nd) (mp) (0) (0) (at2_621) (tk2_622) (fk2_623) (nd2_590) (op2_605) gL651_0 gL651_1 gL651_2 gL651_3 gL651_4 gL651_5 hW624 hF632 hP633 ((e626)) ((e627)) ((e628)) (((hF625.1 31 rfl).trans ((hF607.1 31 rfl).trans (e594)))) (((hF625.1 15 rfl).trans (e609))) (((hF625.1 9 rfl).trans ((hF607.1 9 rfl).trans ((hF592.1 9 rfl).trans (e_ln))))) (by omega) (by omega) (by omega) (by omega) (by omega) (by omega) (by omega) (by omega) (by omega) (by omega) (by omega)
          · have _q := h649
            exact absurd h649 (by omega)
        · have _q : True := trivial
          exfalso
          omega
      · have _q := h643
        refine jx_ld (pc' := 42) (l' := L601) (st' := [.ref 66]) rfl (jl_aloadn gL601_0) ?_
        refine jx_ld (pc' := 43) (l' := L601) (st' := [.ref 66, .ref 66]) rfl (jl_aloadn gL601_0) ?_
        refine jx_ar (pc' := 45) (st' := [.int (i32 (41)), .ref 66, .ref 66]) rfl rfl rfl rfl ?_
        have b653 : (-2147483648 : Int) ≤ G619 13 ∧ G619 13 ≤ 2147483647 := hW624.1 13
        refine jx_vr (pc' := 48) (as := [.int (i32 (41))]) (st := [.ref 66]) rfl rfl rfl rfl ⟨rfl, rfl, Nat.le_of_ble_eq_true rfl⟩ rfl rfl (c_is (dd := d) (hd := by omega) (hW := hW624) (k := 41) (tk := tk2_622) (e_tk := show G619 11 = tk2_622 from (e627)) (tn := G619 13) (e_tn := show G619 13 = G619 13 from rfl)  (h_k := ⟨(by decide), (by decide)⟩)  ) (fun o V' hq => ?_)
        obtain ⟨r654, rfl, rfl, b655, q656⟩ := hq
        refine .inr ⟨_, rfl, ?_⟩
        rcases q656 with ⟨rfl, a657, a658, a659⟩ | rfl
        · have _q : True := trivial
          refine jx_vr (pc' := 51) (as := [.int (i32 (1))]) (st := []) rfl rfl rfl rfl ⟨rfl, rfl, Nat.le_of_ble_eq_true rfl⟩ rfl rfl (c_need (dd := d) (hd := by omega) (hW := hW624) (g := 1) (ln := ln) (e_ln := show G619 9 = ln from ((hF625.1 9 rfl).trans ((hF607.1 9 rfl).trans ((hF592.1 9 rfl).trans (e_ln))))) (le := le) (e_le := show A620 4 (ln).toNat = le from (congrFun ((hF625.2 4 rfl).trans ((hF607.2 4 rfl).trans (hF592.2 4 rfl))) _).trans (e_le)) (at0 := at2_621) (e_at0 := show G619 10 = at2_621 from (e626)) (fk := fk2_623) (e_fk := show G619 16 = fk2_623 from (e628)) (tk0 := tk2_622) (e_tk0 := show G619 11 = tk2_622 from (e627))  (h_g := ⟨(by decide), (by decide)⟩)  (p_0 := by omega)) (fun o V' hq => ?_)
          obtain ⟨G660, A661, at2_662, tk2_663, fk2_664, rfl, rfl, hW665, hF666, e667, e668, e669, p670, p671, q672⟩ := hq
          have hF673 := Fr_tr hF632 hF666 (Fr_sub (by decide)) (Fr_sub (by decide))
          have hP674 := Pf_f hP633 hF666 (by decide)
          have sf675 : ND A661 (nd) (25) (nu) (0) (0) (0) (0) (0) := ND_ag (by omega) (Ag_fr hF666 (by decide)) sf634
          have bat2_662 : (0 : Int) ≤ at2_662 ∧ at2_662 ≤ 3002 := e667 ▸ hW665.1 10
          have ztk2_663 := tz_b tk2_663
          have btk2_663 : (0 : Int) ≤ tk2_663 ∧ tk2_663 ≤ 5 := e668 ▸ hW665.1 11
          have bfk2_664 : (0 : Int) ≤ fk2_664 ∧ fk2_664 ≤ 6 := e669 ▸ hW665.1 16
          refine .inl ⟨rfl, ?_⟩
          rcases q672 with ⟨a676, a677, a678, a679⟩ | ⟨a680, a681, a682, a683⟩
          · have _q : True := trivial
            refine jx_ld (pc' := 52) (l' := L601) (st' := [.ref 66]) rfl (jl_aloadn gL601_0) ?_
            refine jx_vr (pc' := 55) (as := []) (st := []) rfl rfl rfl rfl ⟨rfl, rfl, Nat.le_of_ble_eq_true rfl⟩ rfl rfl (c_endLine (dd := d) (hd := by omega) (hW := hW665)  (ln := ln) (e_ln := show G660 9 = ln from ((hF666.1 9 rfl).trans ((hF625.1 9 rfl).trans ((hF607.1 9 rfl).trans ((hF592.1 9 rfl).trans (e_ln)))))) (li := li) (e_li := show G660 3 = li from ((hF666.1 3 rfl).trans ((hF625.1 3 rfl).trans ((hF607.1 3 rfl).trans ((hF592.1 3 rfl).trans (e_li)))))) (fk := fk2_664) (e_fk := show G660 16 = fk2_664 from (e669)) (tk0 := tk2_663) (e_tk0 := show G660 11 = tk2_663 from (e668))    (p_0 := by omega)) (fun o V' hq => ?_)
            obtain ⟨G684, A685, ln2_686, fk2_687, rfl, rfl, hW688, hF689, e690, e691, q692⟩ := hq
            have hF693 := Fr_tr hF673 hF689 (Fr_sub (by decide)) (Fr_sub (by decide))
            have hP694 := Pf_f hP674 hF689 (by decide)
            have sf695 : ND A685 (nd) (25) (nu) (0) (0) (0) (0) (0) := ND_ag (by omega) (Ag_fr hF689 (by decide)) sf675
            have bln2_686 : (0 : Int) ≤ ln2_686 ∧ ln2_686 ≤ 3000 := e690 ▸ hW688.1 9
            have bfk2_687 : (0 : Int) ≤ fk2_687 ∧ fk2_687 ≤ 6 := e691 ▸ hW688.1 16
            refine .inl ⟨rfl, ?_⟩
            rcases q692 with ⟨a696, a697, a698, a699, a700⟩ | ⟨a701, a702⟩
            · have _q : True := trivial
              exfalso
              omega
            · have _q : True := trivial
              refine jx_ld (pc' := 56) (l' := L601) (st' := [.int (i32 (nd))]) rfl (jl_iloadn gL601_2) ?_
              refine jx_rt (v := some (.int (i32 (nd)))) rfl rfl rfl rfl rfl rfl ?_
              exact ⟨_, _, _, at2_662, fk2_687, nd2_590, ln2_686, rfl, rfl, hW688, hF693, hP694, by omega, ((hF689.1 10 rfl).trans (e667)), (e691), ((hF689.1 31 rfl).trans ((hF666.1 31 rfl).trans ((hF625.1 31 rfl).trans ((hF607.1 31 rfl).trans (e594))))), (e690), by omega, by omega, by omega, by omega, by omega, by first | exact Or.inl (⟨by omega, by omega, by omega⟩)⟩
          · have _q : True := trivial
            exfalso
            omega
        · have _q : True := trivial
          refine jx_vr (pc' := 51) (as := [.int (i32 (0))]) (st := []) rfl rfl rfl rfl ⟨rfl, rfl, Nat.le_of_ble_eq_true rfl⟩ rfl rfl (c_need (dd := d) (hd := by omega) (hW := hW624) (g := 0) (ln := ln) (e_ln := show G619 9 = ln from ((hF625.1 9 rfl).trans ((hF607.1 9 rfl).trans ((hF592.1 9 rfl).trans (e_ln))))) (le := le) (e_le := show A620 4 (ln).toNat = le from (congrFun ((hF625.2 4 rfl).trans ((hF607.2 4 rfl).trans (hF592.2 4 rfl))) _).trans (e_le)) (at0 := at2_621) (e_at0 := show G619 10 = at2_621 from (e626)) (fk := fk2_623) (e_fk := show G619 16 = fk2_623 from (e628)) (tk0 := tk2_622) (e_tk0 := show G619 11 = tk2_622 from (e627))  (h_g := ⟨(by decide), (by decide)⟩)  (p_0 := by omega)) (fun o V' hq => ?_)
          obtain ⟨G703, A704, at2_705, tk2_706, fk2_707, rfl, rfl, hW708, hF709, e710, e711, e712, p713, p714, q715⟩ := hq
          have hF716 := Fr_tr hF632 hF709 (Fr_sub (by decide)) (Fr_sub (by decide))
          have hP717 := Pf_f hP633 hF709 (by decide)
          have sf718 : ND A704 (nd) (25) (nu) (0) (0) (0) (0) (0) := ND_ag (by omega) (Ag_fr hF709 (by decide)) sf634
          have bat2_705 : (0 : Int) ≤ at2_705 ∧ at2_705 ≤ 3002 := e710 ▸ hW708.1 10
          have ztk2_706 := tz_b tk2_706
          have btk2_706 : (0 : Int) ≤ tk2_706 ∧ tk2_706 ≤ 5 := e711 ▸ hW708.1 11
          have bfk2_707 : (0 : Int) ≤ fk2_707 ∧ fk2_707 ≤ 6 := e712 ▸ hW708.1 16
          refine .inl ⟨rfl, ?_⟩
          rcases q715 with ⟨a719, a720, a721, a722⟩ | ⟨a723, a724, a725, a726⟩
          · have _q : True := trivial
            refine jx_ld (pc' := 52) (l' := L601) (st' := [.ref 66]) rfl (jl_aloadn gL601_0) ?_
            refine jx_vr (pc' := 55) (as := []) (st := []) rfl rfl rfl rfl ⟨rfl, rfl, Nat.le_of_ble_eq_true rfl⟩ rfl rfl (c_endLine (dd := d) (hd := by omega) (hW := hW708)  (ln := ln) (e_ln := show G703 9 = ln from ((hF709.1 9 rfl).trans ((hF625.1 9 rfl).trans ((hF607.1 9 rfl).trans ((hF592.1 9 rfl).trans (e_ln)))))) (li := li) (e_li := show G703 3 = li from ((hF709.1 3 rfl).trans ((hF625.1 3 rfl).trans ((hF607.1 3 rfl).trans ((hF592.1 3 rfl).trans (e_li)))))) (fk := fk2_707) (e_fk := show G703 16 = fk2_707 from (e712)) (tk0 := tk2_706) (e_tk0 := show G703 11 = tk2_706 from (e711))    (p_0 := by omega)) (fun o V' hq => ?_)
            obtain ⟨G727, A728, ln2_729, fk2_730, rfl, rfl, hW731, hF732, e733, e734, q735⟩ := hq
            have hF736 := Fr_tr hF716 hF732 (Fr_sub (by decide)) (Fr_sub (by decide))
            have hP737 := Pf_f hP717 hF732 (by decide)
            have sf738 : ND A728 (nd) (25) (nu) (0) (0) (0) (0) (0) := ND_ag (by omega) (Ag_fr hF732 (by decide)) sf718
            have bln2_729 : (0 : Int) ≤ ln2_729 ∧ ln2_729 ≤ 3000 := e733 ▸ hW731.1 9
            have bfk2_730 : (0 : Int) ≤ fk2_730 ∧ fk2_730 ≤ 6 := e734 ▸ hW731.1 16
            refine .inl ⟨rfl, ?_⟩
            rcases q735 with ⟨a739, a740, a741, a742, a743⟩ | ⟨a744, a745⟩
            · have _q : True := trivial
              exfalso
              omega
            · have _q : True := trivial
              refine jx_ld (pc' := 56) (l' := L601) (st' := [.int (i32 (nd))]) rfl (jl_iloadn gL601_2) ?_
              refine jx_rt (v := some (.int (i32 (nd)))) rfl rfl rfl rfl rfl rfl ?_
              exact ⟨_, _, _, at2_705, fk2_730, nd2_590, ln2_729, rfl, rfl, hW731, hF736, hP737, by omega, ((hF732.1 10 rfl).trans (e710)), (e734), ((hF732.1 31 rfl).trans ((hF709.1 31 rfl).trans ((hF625.1 31 rfl).trans ((hF607.1 31 rfl).trans (e594))))), (e733), by omega, by omega, by omega, by omega, by omega, by first | exact Or.inl (⟨by omega, by omega, by omega⟩)⟩
          · have _q : True := trivial
            exfalso
            omega
    · have _q : True := trivial
      exfalso
      omega
  · have _q : True := trivial
    refine jx_ld (pc' := 33) (l' := L601) (st' := [.ref 66]) rfl (jl_aloadn gL601_0) ?_
    refine jx_ar (pc' := 34) (st' := [.int (i32 (1)), .ref 66]) rfl rfl rfl rfl ?_
    refine jx_vr (pc' := 37) (as := [.int (i32 (1))]) (st := []) rfl rfl rfl rfl ⟨rfl, rfl, Nat.le_of_ble_eq_true rfl⟩ rfl rfl (c_need (dd := d) (hd := by omega) (hW := hW606) (g := 1) (ln := ln) (e_ln := show G602 9 = ln from ((hF607.1 9 rfl).trans ((hF592.1 9 rfl).trans (e_ln)))) (le := le) (e_le := show A603 4 (ln).toNat = le from (congrFun ((hF607.2 4 rfl).trans (hF592.2 4 rfl)) _).trans (e_le)) (at0 := at0) (e_at0 := show G602 10 = at0 from ((hF607.1 10 rfl).trans ((hF592.1 10 rfl).trans (e_at0)))) (fk := fk2_604) (e_fk := show G602 16 = fk2_604 from (e608)) (tk0 := tk0) (e_tk0 := show G602 11 = tk0 from ((hF607.1 11 rfl).trans ((hF592.1 11 rfl).trans (e_tk0))))  (h_g := ⟨(by decide), (by decide)⟩)  (p_0 := by omega)) (fun o V' hq => ?_)
    obtain ⟨G746, A747, at2_748, tk2_749, fk2_750, rfl, rfl, hW751, hF752, e753, e754, e755, p756, p757, q758⟩ := hq
    have hF759 := Fr_tr hF612 hF752 (Fr_sub (by decide)) (Fr_sub (by decide))
    have hP760 := Pf_f hP613 hF752 (by decide)
    have sf761 : ND A747 (nd) (25) (nu) (0) (0) (0) (0) (0) := ND_ag (by omega) (Ag_fr hF752 (by decide)) sf614
    have bat2_748 : (0 : Int) ≤ at2_748 ∧ at2_748 ≤ 3002 := e753 ▸ hW751.1 10
    have ztk2_749 := tz_b tk2_749
    have btk2_749 : (0 : Int) ≤ tk2_749 ∧ tk2_749 ≤ 5 := e754 ▸ hW751.1 11
    have bfk2_750 : (0 : Int) ≤ fk2_750 ∧ fk2_750 ≤ 6 := e755 ▸ hW751.1 16
    refine .inl ⟨rfl, ?_⟩
    rcases q758 with ⟨a762, a763, a764, a765⟩ | ⟨a766, a767, a768, a769⟩
    · have _q : True := trivial
      refine jx_ld (pc' := 38) (l' := L601) (st' := [.int (i32 (mp))]) rfl (jl_iloadn gL601_3) ?_
      refine jx_if_ne (pc' := 41) (tg := 57) rfl rfl rfl (Int.le_trans (by decide : (-2147483648 : Int) ≤ 0) b_mp.1) (Int.le_trans b_mp.2 (by decide : (6 : Int) ≤ 2147483647)) (fun h770 => ?_) (fun h770 => ?_)
      · have _q := h770
        refine jx_ld (pc' := 58) (l' := L601) (st' := [.ref 66]) rfl (jl_aloadn gL601_0) ?_
        refine jx_vr (pc' := 61) (as := []) (st := []) rfl rfl rfl rfl ⟨rfl, rfl, Nat.le_of_ble_eq_true rfl⟩ rfl rfl (c_bad (dd := d) (hd := by omega) (hW := hW751)  (fk := fk2_750) (e_fk := show G746 16 = fk2_750 from (e755))    ) (fun o V' hq => ?_)
        obtain ⟨r771, rfl, rfl, b772, q773⟩ := hq
        refine .inr ⟨_, rfl, ?_⟩
        rcases q773 with ⟨rfl, a774⟩ | ⟨rfl, a775⟩
        · have _q : True := trivial
          refine jx_if_ne (pc' := 64) (tg := 82) rfl rfl rfl (by decide) (by decide) (fun h776 => ?_) (fun h776 => ?_)
          · have _q := h776
            refine jx_ar (pc' := 83) (st' := [.int (i32 (0))]) rfl rfl rfl rfl ?_
            refine jx_ld (pc' := 85) (l' := jSto1 L601 4 (.int (i32 (0)))) (st' := []) rfl rfl ?_
            obtain ⟨L777, eL777⟩ : ∃ q, q = jSto1 L601 4 (.int (i32 (0))) := ⟨_, rfl⟩
            rw [← eL777]
            have gL777_0 : jGet L777 0 = some (.ref 66) := eL777 ▸ jg_ne (by decide) gL601_0 rfl
            have gL777_1 : jGet L777 1 = some (.int (i32 (s))) := eL777 ▸ jg_ne (by decide) gL601_1 rfl
            have gL777_2 : jGet L777 2 = some (.int (i32 (nd))) := eL777 ▸ jg_ne (by decide) gL601_2 rfl
            have gL777_3 : jGet L777 3 = some (.int (i32 (mp))) := eL777 ▸ jg_ne (by decide) gL601_3 rfl
            have gL777_4 : jGet L777 4 = some (.int (i32 (0))) := eL777 ▸ jg_eq
            refine jx_ar (pc' := 86) (st' := [.int (i32 (0))]) rfl rfl rfl rfl ?_
            refine jx_ld (pc' := 88) (l' := jSto1 L777 5 (.int (i32 (0)))) (st' := []) rfl rfl ?_
            obtain ⟨L778, eL778⟩ : ∃ q, q = jSto1 L777 5 (.int (i32 (0))) := ⟨_, rfl⟩
            rw [← eL778]
            have gL778_0 : jGet L778 0 = some (.ref 66) := eL778 ▸ jg_ne (by decide) gL777_0 rfl
            have gL778_1 : jGet L778 1 = some (.int (i32 (s))) := eL778 ▸ jg_ne (by decide) gL777_1 rfl
            have gL778_2 : jGet L778 2 = some (.int (i32 (nd))) := eL778 ▸ jg_ne (by decide) gL777_2 rfl
            have gL778_3 : jGet L778 3 = some (.int (i32 (mp))) := eL778 ▸ jg_ne (by decide) gL777_3 rfl
            have gL778_4 : jGet L778 4 = some (.int (i32 (0))) := eL778 ▸ jg_ne (by decide) gL777_4 rfl
            have gL778_5 : jGet L778 5 = some (.int (i32 (0))) := eL778 ▸ jg_eq
            have z779 := tz_f (tk2_749)
            exact c_readCall_at_88p (X := X) (d := d) (Vs := Vs) (sb := sb) (pb := pb) (c0 := c0) (c1 := c1) (G := G) (A := A) (T := T) (s := s) (ln := ln) (le := le) (at0 := at0) (fk := fk) (op0 := op0) (nd := nd) (tk0 := tk0) (li := li) (kd := kd) (nu := nu) (mp := mp) (pp := pp) (hd := hd) (hW := hW) (e_ln := e_ln) (e_le := e_le) (e_at0 := e_at0) (e_fk := e_fk) (e_op0 := e_op0) (e_nd := e_nd) (e_tk0 := e_tk0) (e_li := e_li) (e_kd := e_kd) (e_nu := e_nu) (e_mp := e_mp) (e_pp := e_pp) (i_SV := i_SV) (i_PQ := i_PQ) (h_s := h_s) (p_0 := p_0) (p_1 := p_1) (p_2 := p_2) (p_3 := p_3) (p_4 := p_4) (p_5 := p_5) (p_6 := p_6) (p_7 := p_7) (p_8 := p_8) L778 G746 A747 (nd) (mp) (0) (0) (at2_748) (tk2_749) (fk2_750) (nd2_590) (op2_605) gL778_0 gL778_1 gL778_2 gL778_3 gL778_4 gL778_5 hW751 hF759 hP760 ((e753)) ((e754)) ((e755)) (((hF752.1 31 rfl).trans ((hF607.1 31 rfl).trans (e594)))) (((hF752.1 15 rfl).trans (e609))) (((hF752.1 9 rfl).trans ((hF607.1 9 rfl).trans ((hF592.1 9 rfl).trans (e_ln))))) (by omega) (by omega) (by omega) (by omega) (by omega) (by omega) (by omega) (by omega) (by omega) (by omega) (by omega)
          · have _q := h776
            exact absurd h776 (by omega)
        · have _q : True := trivial
          exfalso
          omega
      · have _q := h770
        refine jx_ld (pc' := 42) (l' := L601) (st' := [.ref 66]) rfl (jl_aloadn gL601_0) ?_
        refine jx_ld (pc' := 43) (l' := L601) (st' := [.ref 66, .ref 66]) rfl (jl_aloadn gL601_0) ?_
        refine jx_ar (pc' := 45) (st' := [.int (i32 (41)), .ref 66, .ref 66]) rfl rfl rfl rfl ?_
        have b780 : (-2147483648 : Int) ≤ G746 13 ∧ G746 13 ≤ 2147483647 := hW751.1 13
        refine jx_vr (pc' := 48) (as := [.int (i32 (41))]) (st := [.ref 66]) rfl rfl rfl rfl ⟨rfl, rfl, Nat.le_of_ble_eq_true rfl⟩ rfl rfl (c_is (dd := d) (hd := by omega) (hW := hW751) (k := 41) (tk := tk2_749) (e_tk := show G746 11 = tk2_749 from (e754)) (tn := G746 13) (e_tn := show G746 13 = G746 13 from rfl)  (h_k := ⟨(by decide), (by decide)⟩)  ) (fun o V' hq => ?_)
        obtain ⟨r781, rfl, rfl, b782, q783⟩ := hq
        refine .inr ⟨_, rfl, ?_⟩
        rcases q783 with ⟨rfl, a784, a785, a786⟩ | rfl
        · have _q : True := trivial
          refine jx_vr (pc' := 51) (as := [.int (i32 (1))]) (st := []) rfl rfl rfl rfl ⟨rfl, rfl, Nat.le_of_ble_eq_true rfl⟩ rfl rfl (c_need (dd := d) (hd := by omega) (hW := hW751) (g := 1) (ln := ln) (e_ln := show G746 9 = ln from ((hF752.1 9 rfl).trans ((hF607.1 9 rfl).trans ((hF592.1 9 rfl).trans (e_ln))))) (le := le) (e_le := show A747 4 (ln).toNat = le from (congrFun ((hF752.2 4 rfl).trans ((hF607.2 4 rfl).trans (hF592.2 4 rfl))) _).trans (e_le)) (at0 := at2_748) (e_at0 := show G746 10 = at2_748 from (e753)) (fk := fk2_750) (e_fk := show G746 16 = fk2_750 from (e755)) (tk0 := tk2_749) (e_tk0 := show G746 11 = tk2_749 from (e754))  (h_g := ⟨(by decide), (by decide)⟩)  (p_0 := by omega)) (fun o V' hq => ?_)
          obtain ⟨G787, A788, at2_789, tk2_790, fk2_791, rfl, rfl, hW792, hF793, e794, e795, e796, p797, p798, q799⟩ := hq
          have hF800 := Fr_tr hF759 hF793 (Fr_sub (by decide)) (Fr_sub (by decide))
          have hP801 := Pf_f hP760 hF793 (by decide)
          have sf802 : ND A788 (nd) (25) (nu) (0) (0) (0) (0) (0) := ND_ag (by omega) (Ag_fr hF793 (by decide)) sf761
          have bat2_789 : (0 : Int) ≤ at2_789 ∧ at2_789 ≤ 3002 := e794 ▸ hW792.1 10
          have ztk2_790 := tz_b tk2_790
          have btk2_790 : (0 : Int) ≤ tk2_790 ∧ tk2_790 ≤ 5 := e795 ▸ hW792.1 11
          have bfk2_791 : (0 : Int) ≤ fk2_791 ∧ fk2_791 ≤ 6 := e796 ▸ hW792.1 16
          refine .inl ⟨rfl, ?_⟩
          rcases q799 with ⟨a803, a804, a805, a806⟩ | ⟨a807, a808, a809, a810⟩
          · have _q : True := trivial
            refine jx_ld (pc' := 52) (l' := L601) (st' := [.ref 66]) rfl (jl_aloadn gL601_0) ?_
            refine jx_vr (pc' := 55) (as := []) (st := []) rfl rfl rfl rfl ⟨rfl, rfl, Nat.le_of_ble_eq_true rfl⟩ rfl rfl (c_endLine (dd := d) (hd := by omega) (hW := hW792)  (ln := ln) (e_ln := show G787 9 = ln from ((hF793.1 9 rfl).trans ((hF752.1 9 rfl).trans ((hF607.1 9 rfl).trans ((hF592.1 9 rfl).trans (e_ln)))))) (li := li) (e_li := show G787 3 = li from ((hF793.1 3 rfl).trans ((hF752.1 3 rfl).trans ((hF607.1 3 rfl).trans ((hF592.1 3 rfl).trans (e_li)))))) (fk := fk2_791) (e_fk := show G787 16 = fk2_791 from (e796)) (tk0 := tk2_790) (e_tk0 := show G787 11 = tk2_790 from (e795))    (p_0 := by omega)) (fun o V' hq => ?_)
            obtain ⟨G811, A812, ln2_813, fk2_814, rfl, rfl, hW815, hF816, e817, e818, q819⟩ := hq
            have hF820 := Fr_tr hF800 hF816 (Fr_sub (by decide)) (Fr_sub (by decide))
            have hP821 := Pf_f hP801 hF816 (by decide)
            have sf822 : ND A812 (nd) (25) (nu) (0) (0) (0) (0) (0) := ND_ag (by omega) (Ag_fr hF816 (by decide)) sf802
            have bln2_813 : (0 : Int) ≤ ln2_813 ∧ ln2_813 ≤ 3000 := e817 ▸ hW815.1 9
            have bfk2_814 : (0 : Int) ≤ fk2_814 ∧ fk2_814 ≤ 6 := e818 ▸ hW815.1 16
            refine .inl ⟨rfl, ?_⟩
            rcases q819 with ⟨a823, a824, a825, a826, a827⟩ | ⟨a828, a829⟩
            · have _q : True := trivial
              exfalso
              omega
            · have _q : True := trivial
              refine jx_ld (pc' := 56) (l' := L601) (st' := [.int (i32 (nd))]) rfl (jl_iloadn gL601_2) ?_
              refine jx_rt (v := some (.int (i32 (nd)))) rfl rfl rfl rfl rfl rfl ?_
              exact ⟨_, _, _, at2_789, fk2_814, nd2_590, ln2_813, rfl, rfl, hW815, hF820, hP821, by omega, ((hF816.1 10 rfl).trans (e794)), (e818), ((hF816.1 31 rfl).trans ((hF793.1 31 rfl).trans ((hF752.1 31 rfl).trans ((hF607.1 31 rfl).trans (e594))))), (e817), by omega, by omega, by omega, by omega, by omega, by first | exact Or.inl (⟨by omega, by omega, by omega⟩)⟩
          · have _q : True := trivial
            exfalso
            omega
        · have _q : True := trivial
          refine jx_vr (pc' := 51) (as := [.int (i32 (0))]) (st := []) rfl rfl rfl rfl ⟨rfl, rfl, Nat.le_of_ble_eq_true rfl⟩ rfl rfl (c_need (dd := d) (hd := by omega) (hW := hW751) (g := 0) (ln := ln) (e_ln := show G746 9 = ln from ((hF752.1 9 rfl).trans ((hF607.1 9 rfl).trans ((hF592.1 9 rfl).trans (e_ln))))) (le := le) (e_le := show A747 4 (ln).toNat = le from (congrFun ((hF752.2 4 rfl).trans ((hF607.2 4 rfl).trans (hF592.2 4 rfl))) _).trans (e_le)) (at0 := at2_748) (e_at0 := show G746 10 = at2_748 from (e753)) (fk := fk2_750) (e_fk := show G746 16 = fk2_750 from (e755)) (tk0 := tk2_749) (e_tk0 := show G746 11 = tk2_749 from (e754))  (h_g := ⟨(by decide), (by decide)⟩)  (p_0 := by omega)) (fun o V' hq => ?_)
          obtain ⟨G830, A831, at2_832, tk2_833, fk2_834, rfl, rfl, hW835, hF836, e837, e838, e839, p840, p841, q842⟩ := hq
          have hF843 := Fr_tr hF759 hF836 (Fr_sub (by decide)) (Fr_sub (by decide))
          have hP844 := Pf_f hP760 hF836 (by decide)
          have sf845 : ND A831 (nd) (25) (nu) (0) (0) (0) (0) (0) := ND_ag (by omega) (Ag_fr hF836 (by decide)) sf761
          have bat2_832 : (0 : Int) ≤ at2_832 ∧ at2_832 ≤ 3002 := e837 ▸ hW835.1 10
          have ztk2_833 := tz_b tk2_833
          have btk2_833 : (0 : Int) ≤ tk2_833 ∧ tk2_833 ≤ 5 := e838 ▸ hW835.1 11
          have bfk2_834 : (0 : Int) ≤ fk2_834 ∧ fk2_834 ≤ 6 := e839 ▸ hW835.1 16
          refine .inl ⟨rfl, ?_⟩
          rcases q842 with ⟨a846, a847, a848, a849⟩ | ⟨a850, a851, a852, a853⟩
          · have _q : True := trivial
            refine jx_ld (pc' := 52) (l' := L601) (st' := [.ref 66]) rfl (jl_aloadn gL601_0) ?_
            refine jx_vr (pc' := 55) (as := []) (st := []) rfl rfl rfl rfl ⟨rfl, rfl, Nat.le_of_ble_eq_true rfl⟩ rfl rfl (c_endLine (dd := d) (hd := by omega) (hW := hW835)  (ln := ln) (e_ln := show G830 9 = ln from ((hF836.1 9 rfl).trans ((hF752.1 9 rfl).trans ((hF607.1 9 rfl).trans ((hF592.1 9 rfl).trans (e_ln)))))) (li := li) (e_li := show G830 3 = li from ((hF836.1 3 rfl).trans ((hF752.1 3 rfl).trans ((hF607.1 3 rfl).trans ((hF592.1 3 rfl).trans (e_li)))))) (fk := fk2_834) (e_fk := show G830 16 = fk2_834 from (e839)) (tk0 := tk2_833) (e_tk0 := show G830 11 = tk2_833 from (e838))    (p_0 := by omega)) (fun o V' hq => ?_)
            obtain ⟨G854, A855, ln2_856, fk2_857, rfl, rfl, hW858, hF859, e860, e861, q862⟩ := hq
            have hF863 := Fr_tr hF843 hF859 (Fr_sub (by decide)) (Fr_sub (by decide))
            have hP864 := Pf_f hP844 hF859 (by decide)
            have sf865 : ND A855 (nd) (25) (nu) (0) (0) (0) (0) (0) := ND_ag (by omega) (Ag_fr hF859 (by decide)) sf845
            have bln2_856 : (0 : Int) ≤ ln2_856 ∧ ln2_856 ≤ 3000 := e860 ▸ hW858.1 9
            have bfk2_857 : (0 : Int) ≤ fk2_857 ∧ fk2_857 ≤ 6 := e861 ▸ hW858.1 16
            refine .inl ⟨rfl, ?_⟩
            rcases q862 with ⟨a866, a867, a868, a869, a870⟩ | ⟨a871, a872⟩
            · have _q : True := trivial
              exfalso
              omega
            · have _q : True := trivial
              refine jx_ld (pc' := 56) (l' := L601) (st' := [.int (i32 (nd))]) rfl (jl_iloadn gL601_2) ?_
              refine jx_rt (v := some (.int (i32 (nd)))) rfl rfl rfl rfl rfl rfl ?_
              exact ⟨_, _, _, at2_832, fk2_857, nd2_590, ln2_856, rfl, rfl, hW858, hF863, hP864, by omega, ((hF859.1 10 rfl).trans (e837)), (e861), ((hF859.1 31 rfl).trans ((hF836.1 31 rfl).trans ((hF752.1 31 rfl).trans ((hF607.1 31 rfl).trans (e594))))), (e860), by omega, by omega, by omega, by omega, by omega, by first | exact Or.inl (⟨by omega, by omega, by omega⟩)⟩
          · have _q : True := trivial
            exfalso
            omega
    · have _q : True := trivial
      refine jx_ld (pc' := 38) (l' := L601) (st' := [.int (i32 (mp))]) rfl (jl_iloadn gL601_3) ?_
      refine jx_if_ne (pc' := 41) (tg := 57) rfl rfl rfl (Int.le_trans (by decide : (-2147483648 : Int) ≤ 0) b_mp.1) (Int.le_trans b_mp.2 (by decide : (6 : Int) ≤ 2147483647)) (fun h873 => ?_) (fun h873 => ?_)
      · have _q := h873
        have z874 := tz_f (tk2_749)
        exact c_readCall_at_57 (X := X) (d := d) (Vs := Vs) (sb := sb) (pb := pb) (c0 := c0) (c1 := c1) (G := G) (A := A) (T := T) (s := s) (ln := ln) (le := le) (at0 := at0) (fk := fk) (op0 := op0) (nd := nd) (tk0 := tk0) (li := li) (kd := kd) (nu := nu) (mp := mp) (pp := pp) (hd := hd) (hW := hW) (e_ln := e_ln) (e_le := e_le) (e_at0 := e_at0) (e_fk := e_fk) (e_op0 := e_op0) (e_nd := e_nd) (e_tk0 := e_tk0) (e_li := e_li) (e_kd := e_kd) (e_nu := e_nu) (e_mp := e_mp) (e_pp := e_pp) (i_SV := i_SV) (i_PQ := i_PQ) (h_s := h_s) (p_0 := p_0) (p_1 := p_1) (p_2 := p_2) (p_3 := p_3) (p_4 := p_4) (p_5 := p_5) (p_6 := p_6) (p_7 := p_7) (p_8 := p_8) L601 G746 A747 (nd) (mp) (at2_748) (tk2_749) (fk2_750) (nd2_590) (op2_605) gL601_0 gL601_1 gL601_2 gL601_3 hW751 hF759 hP760 ((e753)) ((e754)) ((e755)) (((hF752.1 31 rfl).trans ((hF607.1 31 rfl).trans (e594)))) (((hF752.1 15 rfl).trans (e609))) (((hF752.1 9 rfl).trans ((hF607.1 9 rfl).trans ((hF592.1 9 rfl).trans (e_ln))))) (by omega) (by omega) (by omega) (by omega) (by omega) (by omega) (by omega) (by omega) (by omega) (by omega) (by omega) (by omega) (by omega) (by omega) (sf761)
      · have _q := h873
        refine jx_ld (pc' := 42) (l' := L601) (st' := [.ref 66]) rfl (jl_aloadn gL601_0) ?_
        refine jx_ld (pc' := 43) (l' := L601) (st' := [.ref 66, .ref 66]) rfl (jl_aloadn gL601_0) ?_
        refine jx_ar (pc' := 45) (st' := [.int (i32 (41)), .ref 66, .ref 66]) rfl rfl rfl rfl ?_
        have b875 : (-2147483648 : Int) ≤ G746 13 ∧ G746 13 ≤ 2147483647 := hW751.1 13
        refine jx_vr (pc' := 48) (as := [.int (i32 (41))]) (st := [.ref 66]) rfl rfl rfl rfl ⟨rfl, rfl, Nat.le_of_ble_eq_true rfl⟩ rfl rfl (c_is (dd := d) (hd := by omega) (hW := hW751) (k := 41) (tk := tk2_749) (e_tk := show G746 11 = tk2_749 from (e754)) (tn := G746 13) (e_tn := show G746 13 = G746 13 from rfl)  (h_k := ⟨(by decide), (by decide)⟩)  ) (fun o V' hq => ?_)
        obtain ⟨r876, rfl, rfl, b877, q878⟩ := hq
        refine .inr ⟨_, rfl, ?_⟩
        rcases q878 with ⟨rfl, a879, a880, a881⟩ | rfl
        · have _q : True := trivial
          refine jx_vr (pc' := 51) (as := [.int (i32 (1))]) (st := []) rfl rfl rfl rfl ⟨rfl, rfl, Nat.le_of_ble_eq_true rfl⟩ rfl rfl (c_need (dd := d) (hd := by omega) (hW := hW751) (g := 1) (ln := ln) (e_ln := show G746 9 = ln from ((hF752.1 9 rfl).trans ((hF607.1 9 rfl).trans ((hF592.1 9 rfl).trans (e_ln))))) (le := le) (e_le := show A747 4 (ln).toNat = le from (congrFun ((hF752.2 4 rfl).trans ((hF607.2 4 rfl).trans (hF592.2 4 rfl))) _).trans (e_le)) (at0 := at2_748) (e_at0 := show G746 10 = at2_748 from (e753)) (fk := fk2_750) (e_fk := show G746 16 = fk2_750 from (e755)) (tk0 := tk2_749) (e_tk0 := show G746 11 = tk2_749 from (e754))  (h_g := ⟨(by decide), (by decide)⟩)  (p_0 := by omega)) (fun o V' hq => ?_)
          obtain ⟨G882, A883, at2_884, tk2_885, fk2_886, rfl, rfl, hW887, hF888, e889, e890, e891, p892, p893, q894⟩ := hq
          have hF895 := Fr_tr hF759 hF888 (Fr_sub (by decide)) (Fr_sub (by decide))
          have hP896 := Pf_f hP760 hF888 (by decide)
          have sf897 : ND A883 (nd) (25) (nu) (0) (0) (0) (0) (0) := ND_ag (by omega) (Ag_fr hF888 (by decide)) sf761
          have bat2_884 : (0 : Int) ≤ at2_884 ∧ at2_884 ≤ 3002 := e889 ▸ hW887.1 10
          have ztk2_885 := tz_b tk2_885
          have btk2_885 : (0 : Int) ≤ tk2_885 ∧ tk2_885 ≤ 5 := e890 ▸ hW887.1 11
          have bfk2_886 : (0 : Int) ≤ fk2_886 ∧ fk2_886 ≤ 6 := e891 ▸ hW887.1 16
          refine .inl ⟨rfl, ?_⟩
          rcases q894 with ⟨a898, a899, a900, a901⟩ | ⟨a902, a903, a904, a905⟩
          · have _q : True := trivial
            refine jx_ld (pc' := 52) (l' := L601) (st' := [.ref 66]) rfl (jl_aloadn gL601_0) ?_
            refine jx_vr (pc' := 55) (as := []) (st := []) rfl rfl rfl rfl ⟨rfl, rfl, Nat.le_of_ble_eq_true rfl⟩ rfl rfl (c_endLine (dd := d) (hd := by omega) (hW := hW887)  (ln := ln) (e_ln := show G882 9 = ln from ((hF888.1 9 rfl).trans ((hF752.1 9 rfl).trans ((hF607.1 9 rfl).trans ((hF592.1 9 rfl).trans (e_ln)))))) (li := li) (e_li := show G882 3 = li from ((hF888.1 3 rfl).trans ((hF752.1 3 rfl).trans ((hF607.1 3 rfl).trans ((hF592.1 3 rfl).trans (e_li)))))) (fk := fk2_886) (e_fk := show G882 16 = fk2_886 from (e891)) (tk0 := tk2_885) (e_tk0 := show G882 11 = tk2_885 from (e890))    (p_0 := by omega)) (fun o V' hq => ?_)
            obtain ⟨G906, A907, ln2_908, fk2_909, rfl, rfl, hW910, hF911, e912, e913, q914⟩ := hq
            have hF915 := Fr_tr hF895 hF911 (Fr_sub (by decide)) (Fr_sub (by decide))
            have hP916 := Pf_f hP896 hF911 (by decide)
            have sf917 : ND A907 (nd) (25) (nu) (0) (0) (0) (0) (0) := ND_ag (by omega) (Ag_fr hF911 (by decide)) sf897
            have bln2_908 : (0 : Int) ≤ ln2_908 ∧ ln2_908 ≤ 3000 := e912 ▸ hW910.1 9
            have bfk2_909 : (0 : Int) ≤ fk2_909 ∧ fk2_909 ≤ 6 := e913 ▸ hW910.1 16
            refine .inl ⟨rfl, ?_⟩
            rcases q914 with ⟨a918, a919, a920, a921, a922⟩ | ⟨a923, a924⟩
            · have _q : True := trivial
              exfalso
              omega
            · have _q : True := trivial
              refine jx_ld (pc' := 56) (l' := L601) (st' := [.int (i32 (nd))]) rfl (jl_iloadn gL601_2) ?_
              refine jx_rt (v := some (.int (i32 (nd)))) rfl rfl rfl rfl rfl rfl ?_
              exact ⟨_, _, _, at2_884, fk2_909, nd2_590, ln2_908, rfl, rfl, hW910, hF915, hP916, by omega, ((hF911.1 10 rfl).trans (e889)), (e913), ((hF911.1 31 rfl).trans ((hF888.1 31 rfl).trans ((hF752.1 31 rfl).trans ((hF607.1 31 rfl).trans (e594))))), (e912), by omega, by omega, by omega, by omega, by omega, by first | exact Or.inl (⟨by omega, by omega, by omega⟩)⟩
          · have _q : True := trivial
            refine jx_ld (pc' := 52) (l' := L601) (st' := [.ref 66]) rfl (jl_aloadn gL601_0) ?_
            refine jx_vr (pc' := 55) (as := []) (st := []) rfl rfl rfl rfl ⟨rfl, rfl, Nat.le_of_ble_eq_true rfl⟩ rfl rfl (c_endLine (dd := d) (hd := by omega) (hW := hW887)  (ln := ln) (e_ln := show G882 9 = ln from ((hF888.1 9 rfl).trans ((hF752.1 9 rfl).trans ((hF607.1 9 rfl).trans ((hF592.1 9 rfl).trans (e_ln)))))) (li := li) (e_li := show G882 3 = li from ((hF888.1 3 rfl).trans ((hF752.1 3 rfl).trans ((hF607.1 3 rfl).trans ((hF592.1 3 rfl).trans (e_li)))))) (fk := fk2_886) (e_fk := show G882 16 = fk2_886 from (e891)) (tk0 := tk2_885) (e_tk0 := show G882 11 = tk2_885 from (e890))    (p_0 := by omega)) (fun o V' hq => ?_)
            obtain ⟨G925, A926, ln2_927, fk2_928, rfl, rfl, hW929, hF930, e931, e932, q933⟩ := hq
            have hF934 := Fr_tr hF895 hF930 (Fr_sub (by decide)) (Fr_sub (by decide))
            have hP935 := Pf_f hP896 hF930 (by decide)
            have sf936 : ND A926 (nd) (25) (nu) (0) (0) (0) (0) (0) := ND_ag (by omega) (Ag_fr hF930 (by decide)) sf897
            have bln2_927 : (0 : Int) ≤ ln2_927 ∧ ln2_927 ≤ 3000 := e931 ▸ hW929.1 9
            have bfk2_928 : (0 : Int) ≤ fk2_928 ∧ fk2_928 ≤ 6 := e932 ▸ hW929.1 16
            refine .inl ⟨rfl, ?_⟩
            rcases q933 with ⟨a937, a938, a939, a940, a941⟩ | ⟨a942, a943⟩
            · have _q : True := trivial
              refine jx_ld (pc' := 56) (l' := L601) (st' := [.int (i32 (nd))]) rfl (jl_iloadn gL601_2) ?_
              refine jx_rt (v := some (.int (i32 (nd)))) rfl rfl rfl rfl rfl rfl ?_
              exact ⟨_, _, _, at2_884, fk2_928, nd2_590, ln2_927, rfl, rfl, hW929, hF934, hP935, by omega, ((hF930.1 10 rfl).trans (e889)), (e932), ((hF930.1 31 rfl).trans ((hF888.1 31 rfl).trans ((hF752.1 31 rfl).trans ((hF607.1 31 rfl).trans (e594))))), (e931), by omega, by omega, by omega, by omega, by omega, by first | exact Or.inr ((⟨by omega, by omega, by omega, by omega, by omega, (wL_call (last := 0) sf936 (by omega) (by omega) (by omega) ((show A926 30 (nu).toNat = mp from (congrFun ((hF930.2 30 rfl).trans ((hF888.2 30 rfl).trans ((hF752.2 30 rfl).trans ((hF607.2 30 rfl).trans (hF592.2 30 rfl))))) _).trans (e_mp)).trans (by omega : mp = 0)) ((show A926 29 (nu).toNat = pp from (congrFun ((hF930.2 29 rfl).trans ((hF888.2 29 rfl).trans ((hF752.2 29 rfl).trans ((hF607.2 29 rfl).trans (hF592.2 29 rfl))))) _).trans (e_pp)).trans (by omega : pp = pp)) (CA_eq (CA_nil (lo := nd + 1) (ND_f0 sf936)) (by omega) (by omega) (by omega) (by omega) (by omega))), (NX_nd sf936)⟩))⟩
            · have _q : True := trivial
              refine jx_ld (pc' := 56) (l' := L601) (st' := [.int (i32 (nd))]) rfl (jl_iloadn gL601_2) ?_
              refine jx_rt (v := some (.int (i32 (nd)))) rfl rfl rfl rfl rfl rfl ?_
              exact ⟨_, _, _, at2_884, fk2_928, nd2_590, ln2_927, rfl, rfl, hW929, hF934, hP935, by omega, ((hF930.1 10 rfl).trans (e889)), (e932), ((hF930.1 31 rfl).trans ((hF888.1 31 rfl).trans ((hF752.1 31 rfl).trans ((hF607.1 31 rfl).trans (e594))))), (e931), by omega, by omega, by omega, by omega, by omega, by first | exact Or.inl (⟨by omega, by omega, by omega⟩)⟩
        · have _q : True := trivial
          refine jx_vr (pc' := 51) (as := [.int (i32 (0))]) (st := []) rfl rfl rfl rfl ⟨rfl, rfl, Nat.le_of_ble_eq_true rfl⟩ rfl rfl (c_need (dd := d) (hd := by omega) (hW := hW751) (g := 0) (ln := ln) (e_ln := show G746 9 = ln from ((hF752.1 9 rfl).trans ((hF607.1 9 rfl).trans ((hF592.1 9 rfl).trans (e_ln))))) (le := le) (e_le := show A747 4 (ln).toNat = le from (congrFun ((hF752.2 4 rfl).trans ((hF607.2 4 rfl).trans (hF592.2 4 rfl))) _).trans (e_le)) (at0 := at2_748) (e_at0 := show G746 10 = at2_748 from (e753)) (fk := fk2_750) (e_fk := show G746 16 = fk2_750 from (e755)) (tk0 := tk2_749) (e_tk0 := show G746 11 = tk2_749 from (e754))  (h_g := ⟨(by decide), (by decide)⟩)  (p_0 := by omega)) (fun o V' hq => ?_)
          obtain ⟨G944, A945, at2_946, tk2_947, fk2_948, rfl, rfl, hW949, hF950, e951, e952, e953, p954, p955, q956⟩ := hq
          have hF957 := Fr_tr hF759 hF950 (Fr_sub (by decide)) (Fr_sub (by decide))
          have hP958 := Pf_f hP760 hF950 (by decide)
          have sf959 : ND A945 (nd) (25) (nu) (0) (0) (0) (0) (0) := ND_ag (by omega) (Ag_fr hF950 (by decide)) sf761
          have bat2_946 : (0 : Int) ≤ at2_946 ∧ at2_946 ≤ 3002 := e951 ▸ hW949.1 10
          have ztk2_947 := tz_b tk2_947
          have btk2_947 : (0 : Int) ≤ tk2_947 ∧ tk2_947 ≤ 5 := e952 ▸ hW949.1 11
          have bfk2_948 : (0 : Int) ≤ fk2_948 ∧ fk2_948 ≤ 6 := e953 ▸ hW949.1 16
          refine .inl ⟨rfl, ?_⟩
          rcases q956 with ⟨a960, a961, a962, a963⟩ | ⟨a964, a965, a966, a967⟩
          · have _q : True := trivial
            refine jx_ld (pc' := 52) (l' := L601) (st' := [.ref 66]) rfl (jl_aloadn gL601_0) ?_
            refine jx_vr (pc' := 55) (as := []) (st := []) rfl rfl rfl rfl ⟨rfl, rfl, Nat.le_of_ble_eq_true rfl⟩ rfl rfl (c_endLine (dd := d) (hd := by omega) (hW := hW949)  (ln := ln) (e_ln := show G944 9 = ln from ((hF950.1 9 rfl).trans ((hF752.1 9 rfl).trans ((hF607.1 9 rfl).trans ((hF592.1 9 rfl).trans (e_ln)))))) (li := li) (e_li := show G944 3 = li from ((hF950.1 3 rfl).trans ((hF752.1 3 rfl).trans ((hF607.1 3 rfl).trans ((hF592.1 3 rfl).trans (e_li)))))) (fk := fk2_948) (e_fk := show G944 16 = fk2_948 from (e953)) (tk0 := tk2_947) (e_tk0 := show G944 11 = tk2_947 from (e952))    (p_0 := by omega)) (fun o V' hq => ?_)
            obtain ⟨G968, A969, ln2_970, fk2_971, rfl, rfl, hW972, hF973, e974, e975, q976⟩ := hq
            have hF977 := Fr_tr hF957 hF973 (Fr_sub (by decide)) (Fr_sub (by decide))
            have hP978 := Pf_f hP958 hF973 (by decide)
            have sf979 : ND A969 (nd) (25) (nu) (0) (0) (0) (0) (0) := ND_ag (by omega) (Ag_fr hF973 (by decide)) sf959
            have bln2_970 : (0 : Int) ≤ ln2_970 ∧ ln2_970 ≤ 3000 := e974 ▸ hW972.1 9
            have bfk2_971 : (0 : Int) ≤ fk2_971 ∧ fk2_971 ≤ 6 := e975 ▸ hW972.1 16
            refine .inl ⟨rfl, ?_⟩
            rcases q976 with ⟨a980, a981, a982, a983, a984⟩ | ⟨a985, a986⟩
            · have _q : True := trivial
              exfalso
              omega
            · have _q : True := trivial
              refine jx_ld (pc' := 56) (l' := L601) (st' := [.int (i32 (nd))]) rfl (jl_iloadn gL601_2) ?_
              refine jx_rt (v := some (.int (i32 (nd)))) rfl rfl rfl rfl rfl rfl ?_
              exact ⟨_, _, _, at2_946, fk2_971, nd2_590, ln2_970, rfl, rfl, hW972, hF977, hP978, by omega, ((hF973.1 10 rfl).trans (e951)), (e975), ((hF973.1 31 rfl).trans ((hF950.1 31 rfl).trans ((hF752.1 31 rfl).trans ((hF607.1 31 rfl).trans (e594))))), (e974), by omega, by omega, by omega, by omega, by omega, by first | exact Or.inl (⟨by omega, by omega, by omega⟩)⟩
          · have _q : True := trivial
            exfalso
            omega
