set_option maxRecDepth 20000 in
set_option maxHeartbeats 4000000 in
theorem c_bare2_at_2 {X : jX} {d : Nat} {T0 : Nat → Nat → Int} {Vs : Nat → Prop} {sb : Int} {k : Nat} {c0 c1 : jC} {G : Nat → Int} {A : Nat → Nat → Int} {T : jH} {e : Int} {lo hi : Int} (hd : 1 ≤ d + 1) (hW : Wk G A) (h_e : (-2147483648 : Int) ≤ e ∧ e ≤ 2147483647) (p_0 : TA T0 A) (p_1 : 0 ≤ lo) (p_2 : hi ≤ 6999) (p_3 : k ≤ 30) (p_4 : wE T0 Vs sb (k) (e) (lo) (hi)) : ∀ (F : Nat) (L : jL) (x : Int), jGet L 0 = some (.ref 66) → jGet L 1 = some (.int (i32 (e))) → jGet L 2 = some (.int (i32 x)) → ((-2147483648 : Int) ≤ x ∧ x ≤ 2147483647) → (bK T0 30 e = bK T0 F x) → (lo ≤ x) → (x < hi) → (wE T0 Vs sb (F) (x) (lo) (hi)) → wj X d jm315 (2, L, [], rV c0 c1 G A T) (fun o V_q => ∃ (r : Int), V_q = rV c0 c1 G A T ∧ o = .inl (some (.int (i32 r))) ∧ ((-2147483648 : Int) ≤ r ∧ r ≤ 2147483647) ∧ (r = bK T0 30 e) ∧ (lo ≤ r) ∧ (r < hi) ∧ True) := by
  have hWT := TA_w hW p_0
  have hbk := bK_n p_4 (show k ≤ 30 by omega)
  have hin := wE_in p_4
  intro F
  induction F using Nat.strongRecOn with
  | ind F ih2 =>
    intro L x gL_0 gL_1 gL_2 rx_x iv_0 iv_1 iv_2 iv_3
    refine jx_ld (pc_q := 3) (l_q := L) (st_q := [.ref 66]) rfl (jl_aloadn gL_0) ?_
    refine jr_get (pc_q := 6) (i := 32) (v := .ref 82) rfl rfl (by decide) rfl rfl ?_
    refine jx_ld (pc_q := 7) (l_q := L) (st_q := [.int (i32 (x)), .ref 82]) rfl (jl_iloadn gL_2) ?_
    have b1 : (0 : Int) ≤ T0 15 (x).toNat ∧ T0 15 (x).toNat ≤ 34 := hWT.2 15 _
    refine jr_ldv (pc_q := 8) (i := 15) (m := 7000) (z := x) (y := T0 15 (x).toNat) rfl (by decide) rfl (by decide) (by omega) (by omega) rfl (show A 15 (x).toNat = T0 15 (x).toNat from (congrFun (p_0 15 rfl) _)) ?_
    refine jx_ar (pc_q := 10) (st_q := [.int (i32 (7)), .int (i32 (T0 15 (x).toNat))]) rfl rfl rfl rfl ?_
    refine jx_icmp_ne (pc_q := 13) (tg := 23) rfl rfl rfl (Int.le_trans (by decide : (-2147483648 : Int) ≤ 0) b1.1) (Int.le_trans b1.2 (by decide : (34 : Int) ≤ 2147483647)) (by decide) (by decide) (fun h2 => ?_) (fun h2 => ?_)
    · have _q := h2
      have hb8 := bK_x (A := T0) (n := F) (e := x) (by omega)
      refine jx_ld (pc_q := 24) (l_q := L) (st_q := [.int (i32 (x))]) rfl (jl_iloadn gL_2) ?_
      refine jx_rt (v := some (.int (i32 (x)))) rfl rfl rfl rfl rfl rfl ?_
      exact ⟨_, rfl, rfl, by omega, by omega, by omega, by omega, trivial⟩
    · have _q := h2
      obtain ⟨F1, rfl⟩ := wE_pos iv_3; have hi7 := wE_i5 iv_3 (.inr (.inr (by omega))); have hb7 := bK_y (A := T0) (n := F1) (e := x) (by omega); have hn7 := wE_in hi7
      refine jx_ld (pc_q := 14) (l_q := L) (st_q := [.ref 66]) rfl (jl_aloadn gL_0) ?_
      refine jr_get (pc_q := 17) (i := 34) (v := .ref 84) rfl rfl (by decide) rfl rfl ?_
      refine jx_ld (pc_q := 18) (l_q := L) (st_q := [.int (i32 (x)), .ref 84]) rfl (jl_iloadn gL_2) ?_
      have b3 : (-2147483648 : Int) ≤ T0 17 (x).toNat ∧ T0 17 (x).toNat ≤ 2147483647 := hWT.2 17 _
      refine jr_ldv (pc_q := 19) (i := 17) (m := 7000) (z := x) (y := T0 17 (x).toNat) rfl (by decide) rfl (by decide) (by omega) (by omega) rfl (show A 17 (x).toNat = T0 17 (x).toNat from (congrFun (p_0 17 rfl) _)) ?_
      refine jx_ld (pc_q := 20) (l_q := jSto1 L 2 (.int (i32 (T0 17 (x).toNat)))) (st_q := []) rfl rfl ?_
      obtain ⟨L4, eL4⟩ : ∃ q, q = jSto1 L 2 (.int (i32 (T0 17 (x).toNat))) := ⟨_, rfl⟩
      rw [← eL4]
      have gL4_0 : jGet L4 0 = some (.ref 66) := eL4 ▸ jg_ne (by decide) gL_0 rfl
      have gL4_1 : jGet L4 1 = some (.int (i32 (e))) := eL4 ▸ jg_ne (by decide) gL_1 rfl
      have gL4_2 : jGet L4 2 = some (.int (i32 (T0 17 (x).toNat))) := eL4 ▸ jg_eq
      refine jx_go (tg := 2) rfl rfl ?_
      exact ih2 (F1) (by omega) L4 (T0 17 (x).toNat) gL4_0 gL4_1 gL4_2 (by omega) (by omega) (by omega) (by omega) ((wE_mono (by omega) (by omega) (by omega) hi7))
set_option maxRecDepth 20000 in
set_option maxHeartbeats 4000000 in
theorem c_bare2 {X : jX} {dd : Nat} {T0 : Nat → Nat → Int} {Vs : Nat → Prop} {sb : Int} {k : Nat} {c0 c1 : jC} {G : Nat → Int} {A : Nat → Nat → Int} {T : jH} {e : Int} {lo hi : Int} (hd : 1 ≤ dd) (hW : Wk G A) (h_e : (-2147483648 : Int) ≤ e ∧ e ≤ 2147483647) (p_0 : TA T0 A) (p_1 : 0 ≤ lo) (p_2 : hi ≤ 6999) (p_3 : k ≤ 30) (p_4 : wE T0 Vs sb (k) (e) (lo) (hi)) : wk X dd 315 [.ref 66, .int (i32 e)] (rV c0 c1 G A T) (fun o V_q => ∃ (r : Int), V_q = rV c0 c1 G A T ∧ o = .inl (some (.int (i32 r))) ∧ ((-2147483648 : Int) ≤ r ∧ r ≤ 2147483647) ∧ (r = bK T0 30 e) ∧ (lo ≤ r) ∧ (r < hi) ∧ True) := by
  obtain ⟨d, rfl⟩ : ∃ d, dd = d + 1 := ⟨dd - 1, by omega⟩
  refine wk_of (e := jm315) rfl (Nat.le_of_ble_eq_true rfl) ?_
  show wj X d jm315 (0, [(0, .ref 66), (1, .int (i32 (e)))], [], rV c0 c1 G A T) _
  have hWT := TA_w hW p_0
  have hbk := bK_n p_4 (show k ≤ 30 by omega)
  have hin := wE_in p_4
  refine jx_ld (pc_q := 1) (l_q := [(0, .ref 66), (1, .int (i32 (e)))]) (st_q := [.int (i32 (e))]) rfl (jl_iloadn rfl) ?_
  refine jx_ld (pc_q := 2) (l_q := jSto1 [(0, .ref 66), (1, .int (i32 (e)))] 2 (.int (i32 (e)))) (st_q := []) rfl rfl ?_
  obtain ⟨L5, eL5⟩ : ∃ q, q = jSto1 [(0, .ref 66), (1, .int (i32 (e)))] 2 (.int (i32 (e))) := ⟨_, rfl⟩
  rw [← eL5]
  have gL5_0 : jGet L5 0 = some (.ref 66) := eL5 ▸ jg_ne (by decide) (rfl : jGet [(0, .ref 66), (1, .int (i32 (e)))] 0 = some (.ref 66)) rfl
  have gL5_1 : jGet L5 1 = some (.int (i32 (e))) := eL5 ▸ jg_ne (by decide) (rfl : jGet [(0, .ref 66), (1, .int (i32 (e)))] 1 = some (.int (i32 (e)))) rfl
  have gL5_2 : jGet L5 2 = some (.int (i32 (e))) := eL5 ▸ jg_eq
  exact c_bare2_at_2 (X := X) (d := d) (T0 := T0) (Vs := Vs) (sb := sb) (k := k) (c0 := c0) (c1 := c1) (G := G) (A := A) (T := T) (e := e) (lo := lo) (hi := hi) (hd := hd) (hW := hW) (h_e := h_e) (p_0 := p_0) (p_1 := p_1) (p_2 := p_2) (p_3 := p_3) (p_4 := p_4) (k) L5 (e) gL5_0 gL5_1 gL5_2 (by omega) (by omega) (by omega) (by omega) ((wE_mono (by omega) (by omega) (by omega) p_4))
set_option maxRecDepth 20000 in
set_option maxHeartbeats 4000000 in
theorem c_genAddress {X : jX} {k : Nat} (hG : GE X k) {dd : Nat} {T0 : Nat → Nat → Int} {F Sn : Int → Int} {Vs : Nat → Prop} {sb : Int} {c0 c1 : jC} {G : Nat → Int} {A : Nat → Nat → Int} {T : jH} {x : Int} {lo hi : Int} {st lg lb nw : Int} (hd : 2 * k + 7 ≤ dd) (hW : Wk G A) (e_st : G 70 = st) (e_lg : G 79 = lg) (e_lb : G 77 = lb) (e_nw : G 81 = nw) (h_x : (-2147483648 : Int) ≤ x ∧ x ≤ 2147483647) (p_0 : TA T0 A) (p_1 : FA F (nw) A) (p_2 : SA T0 Vs Sn A) (p_3 : VW T0 Vs (nw)) (p_4 : 0 ≤ nw) (p_5 : nw ≤ 39) (p_6 : 0 ≤ st) (p_7 : st ≤ 7000) (p_8 : 0 ≤ lb) (p_9 : lb + (hi - lo) + 7000 - st ≤ 1990000000) (p_10 : 0 ≤ lo) (p_11 : hi ≤ 6999) (p_12 : sb ≤ 202) (p_13 : pX T0 Vs sb (k) (x) (lo) (hi)) (p_14 : (k : Int) ≤ 30) : wk X dd 349 [.ref 66, .int (i32 x)] (rV c0 c1 G A T) (fun o V_q => ∃ (G_q : Nat → Int) (A_q : Nat → Nat → Int) (st2 : Int) (lg2 : Int) (lb2 : Int), V_q = rV c0 c1 G_q A_q T ∧ o = .inl none ∧ Wk G_q A_q ∧ Fr [70, 77, 79] [44, 45, 46, 47, 50] G A G_q A_q ∧ Fx [44, 45, 46, 47] (st) A A_q ∧ G_q 70 = st2 ∧ G_q 79 = lg2 ∧ G_q 77 = lb2 ∧ (st ≤ st2) ∧ (st2 ≤ 7000) ∧ (lg ≤ lg2) ∧ (lg2 ≤ 1) ∧ (lb ≤ lb2) ∧ (Cd (lg2 = 0) (lb2 - lb ≤ st2 - st)) ∧ (lb2 - lb ≤ st2 - st + (hi - lo)) ∧ (Cd (lg2 = 0 ∧ lb2 < 19999) (Fx [50] (lb + 1) A A_q)) ∧ (Cd (lg2 = 0 ∧ lb2 < 19999) (gD T0 A_q F Sn nw (k) (x) (st) (st2) (lb) (lb2))) ∧ True) := by
  obtain ⟨d, rfl⟩ : ∃ d, dd = d + 1 := ⟨dd - 1, by omega⟩
  refine wk_of (e := jm349) rfl (Nat.le_of_ble_eq_true rfl) ?_
  show wj X d jm349 (0, [(0, .ref 66), (1, .int (i32 (x)))], [], rV c0 c1 G A T) _
  have hF0 : Fr [70, 77, 79] [44, 45, 46, 47, 50] G A G A := Fr_rf
  have hC0 : Fx [44, 45, 46, 47] (st) A A := Fx_rf
  have b_st : (-2147483648 : Int) ≤ st ∧ st ≤ 2147483647 := e_st ▸ hW.1 70
  have b_lg : (0 : Int) ≤ lg ∧ lg ≤ 1 := e_lg ▸ hW.1 79
  have b_lb : (-2147483648 : Int) ≤ lb ∧ lb ≤ 2147483647 := e_lb ▸ hW.1 77
  have b_nw : (-2147483648 : Int) ≤ nw ∧ nw ≤ 2147483647 := e_nw ▸ hW.1 81
  have hWT := TA_w hW p_0
  have hBo0 : Cd (lg = 0 ∧ lb < 19999) (Fx [50] (lb + 1) A A) := Cd_mk (fun _ => Fx_rf)
  have hs1 := p_13.2.2.1.1; have hs2 := p_13.2.2.1.2.1; have hx1 := p_13.1; have hx2 := p_13.2.1
  refine jx_ld (pc_q := 1) (l_q := [(0, .ref 66), (1, .int (i32 (x)))]) (st_q := [.ref 66]) rfl (jl_aloadn rfl) ?_
  refine jr_get (pc_q := 4) (i := 34) (v := .ref 84) rfl rfl (by decide) rfl rfl ?_
  refine jx_ld (pc_q := 5) (l_q := [(0, .ref 66), (1, .int (i32 (x)))]) (st_q := [.int (i32 (x)), .ref 84]) rfl (jl_iloadn rfl) ?_
  have b1 : (-2147483648 : Int) ≤ T0 17 (x).toNat ∧ T0 17 (x).toNat ≤ 2147483647 := hWT.2 17 _
  refine jr_ldv (pc_q := 6) (i := 17) (m := 7000) (z := x) (y := T0 17 (x).toNat) rfl (by decide) rfl (by decide) (by omega) (by omega) rfl (show A 17 (x).toNat = T0 17 (x).toNat from (congrFun (p_0 17 rfl) _)) ?_
  refine jx_ld (pc_q := 7) (l_q := jSto1 [(0, .ref 66), (1, .int (i32 (x)))] 2 (.int (i32 (T0 17 (x).toNat)))) (st_q := []) rfl rfl ?_
  obtain ⟨L2, eL2⟩ : ∃ q, q = jSto1 [(0, .ref 66), (1, .int (i32 (x)))] 2 (.int (i32 (T0 17 (x).toNat))) := ⟨_, rfl⟩
  rw [← eL2]
  have gL2_0 : jGet L2 0 = some (.ref 66) := eL2 ▸ jg_ne (by decide) (rfl : jGet [(0, .ref 66), (1, .int (i32 (x)))] 0 = some (.ref 66)) rfl
  have gL2_1 : jGet L2 1 = some (.int (i32 (x))) := eL2 ▸ jg_ne (by decide) (rfl : jGet [(0, .ref 66), (1, .int (i32 (x)))] 1 = some (.int (i32 (x)))) rfl
  have gL2_2 : jGet L2 2 = some (.int (i32 (T0 17 (x).toNat))) := eL2 ▸ jg_eq
  refine jx_ld (pc_q := 8) (l_q := L2) (st_q := [.ref 66]) rfl (jl_aloadn gL2_0) ?_
  refine jr_get (pc_q := 11) (i := 21) (v := .ref 74) rfl rfl (by decide) rfl rfl ?_
  refine jx_ld (pc_q := 12) (l_q := L2) (st_q := [.int (i32 (T0 17 (x).toNat)), .ref 74]) rfl (jl_iloadn gL2_2) ?_
  have b3 : (0 : Int) ≤ T0 7 (T0 17 (x).toNat).toNat ∧ T0 7 (T0 17 (x).toNat).toNat ≤ 14 := hWT.2 7 _
  refine jr_ldv (pc_q := 13) (i := 7) (m := 260) (z := T0 17 (x).toNat) (y := T0 7 (T0 17 (x).toNat).toNat) rfl (by decide) rfl (by decide) (by omega) (by omega) rfl (show A 7 (T0 17 (x).toNat).toNat = T0 7 (T0 17 (x).toNat).toNat from (congrFun (p_0 7 rfl) _)) ?_
  refine jx_ld (pc_q := 14) (l_q := jSto1 L2 3 (.int (i32 (T0 7 (T0 17 (x).toNat).toNat)))) (st_q := []) rfl rfl ?_
  obtain ⟨L4, eL4⟩ : ∃ q, q = jSto1 L2 3 (.int (i32 (T0 7 (T0 17 (x).toNat).toNat))) := ⟨_, rfl⟩
  rw [← eL4]
  have gL4_0 : jGet L4 0 = some (.ref 66) := eL4 ▸ jg_ne (by decide) gL2_0 rfl
  have gL4_1 : jGet L4 1 = some (.int (i32 (x))) := eL4 ▸ jg_ne (by decide) gL2_1 rfl
  have gL4_2 : jGet L4 2 = some (.int (i32 (T0 17 (x).toNat))) := eL4 ▸ jg_ne (by decide) gL2_2 rfl
  have gL4_3 : jGet L4 3 = some (.int (i32 (T0 7 (T0 17 (x).toNat).toNat))) := eL4 ▸ jg_eq
  refine jx_ld (pc_q := 15) (l_q := L4) (st_q := [.ref 66]) rfl (jl_aloadn gL4_0) ?_
  refine jr_get (pc_q := 18) (i := 32) (v := .ref 82) rfl rfl (by decide) rfl rfl ?_
  refine jx_ld (pc_q := 19) (l_q := L4) (st_q := [.int (i32 (x)), .ref 82]) rfl (jl_iloadn gL4_1) ?_
  have b5 : (0 : Int) ≤ T0 15 (x).toNat ∧ T0 15 (x).toNat ≤ 34 := hWT.2 15 _
  refine jr_ldv (pc_q := 20) (i := 15) (m := 7000) (z := x) (y := T0 15 (x).toNat) rfl (by decide) rfl (by decide) (by omega) (by omega) rfl (show A 15 (x).toNat = T0 15 (x).toNat from (congrFun (p_0 15 rfl) _)) ?_
  refine jx_ar (pc_q := 21) (st_q := [.int (i32 (3)), .int (i32 (T0 15 (x).toNat))]) rfl rfl rfl rfl ?_
  refine jx_icmp_ne (pc_q := 24) (tg := 81) rfl rfl rfl (Int.le_trans (by decide : (-2147483648 : Int) ≤ 0) b5.1) (Int.le_trans b5.2 (by decide : (34 : Int) ≤ 2147483647)) (by decide) (by decide) (fun h6 => ?_) (fun h6 => ?_)
  · have _q := h6
    have hq2 := pX_i2 p_13 (by omega)
    refine jx_ld (pc_q := 82) (l_q := L4) (st_q := [.int (i32 (T0 7 (T0 17 (x).toNat).toNat))]) rfl (jl_iloadn gL4_3) ?_
    refine jx_ar (pc_q := 84) (st_q := [.int (i32 (11)), .int (i32 (T0 7 (T0 17 (x).toNat).toNat))]) rfl rfl rfl rfl ?_
    refine jx_icmp_ne (pc_q := 87) (tg := 101) rfl rfl rfl (Int.le_trans (by decide : (-2147483648 : Int) ≤ 0) b3.1) (Int.le_trans b3.2 (by decide : (14 : Int) ≤ 2147483647)) (by decide) (by decide) (fun h7 => ?_) (fun h7 => ?_)
    · have _q := h7
      refine jx_ld (pc_q := 102) (l_q := L4) (st_q := [.int (i32 (T0 7 (T0 17 (x).toNat).toNat))]) rfl (jl_iloadn gL4_3) ?_
      refine jx_ar (pc_q := 104) (st_q := [.int (i32 (12)), .int (i32 (T0 7 (T0 17 (x).toNat).toNat))]) rfl rfl rfl rfl ?_
      refine jx_icmp_eq (pc_q := 107) (tg := 113) rfl rfl rfl (Int.le_trans (by decide : (-2147483648 : Int) ≤ 0) b3.1) (Int.le_trans b3.2 (by decide : (14 : Int) ≤ 2147483647)) (by decide) (by decide) (fun h8 => ?_) (fun h8 => ?_)
      · have _q := h8
        refine jx_ld (pc_q := 114) (l_q := L4) (st_q := [.ref 66]) rfl (jl_aloadn gL4_0) ?_
        refine jx_ar (pc_q := 115) (st_q := [.int (i32 (4)), .ref 66]) rfl rfl rfl rfl ?_
        refine jx_ld (pc_q := 116) (l_q := L4) (st_q := [.int (i32 (T0 7 (T0 17 (x).toNat).toNat)), .int (i32 (4)), .ref 66]) rfl (jl_iloadn gL4_3) ?_
        refine jx_ar (pc_q := 118) (st_q := [.int (i32 (12)), .int (i32 (T0 7 (T0 17 (x).toNat).toNat)), .int (i32 (4)), .ref 66]) rfl rfl rfl rfl ?_
        refine jx_icmp_ne (pc_q := 121) (tg := 126) rfl rfl rfl (Int.le_trans (by decide : (-2147483648 : Int) ≤ 0) b3.1) (Int.le_trans b3.2 (by decide : (14 : Int) ≤ 2147483647)) (by decide) (by decide) (fun h9 => ?_) (fun h9 => ?_)
        · have _q := h9
          refine jx_ar (pc_q := 128) (st_q := [.int (i32 (13)), .int (i32 (4)), .ref 66]) rfl rfl rfl rfl ?_
          refine jx_vr (pc_q := 131) (as := [.int (i32 (4)), .int (i32 (13))]) (st := []) rfl rfl rfl rfl ⟨rfl, rfl, Nat.le_of_ble_eq_true rfl⟩ rfl rfl (c_emit (dd := d) (hd := by omega) (hW := hW) (fn := 4) (v := 13) (st := st) (e_st := show G 70 = st from (e_st)) (lg := lg) (e_lg := show G 79 = lg from (e_lg))  (h_fn := ⟨(by decide), (by decide)⟩) (h_v := ⟨(by decide), (by decide)⟩)  (p_0 := by omega) (p_1 := by omega)) (fun o V_q hq => ?_)
          obtain ⟨G10, A11, st2_12, lg2_13, rfl, rfl, hW14, hF15, hQ16, e17, e18, p19, p20, p21, p22, p23, p24, -⟩ := hq
          have hF26 := Fr_tr hF0 hF15 (Fr_sub (by decide)) (Fr_sub (by decide))
          have hC27 := Fx_tr hC0 hQ16 (by omega)
          have bst2_12 : (-2147483648 : Int) ≤ st2_12 ∧ st2_12 ≤ 2147483647 := e17 ▸ hW14.1 70
          have blg2_13 : (0 : Int) ≤ lg2_13 ∧ lg2_13 ≤ 1 := e18 ▸ hW14.1 79
          refine .inl ⟨rfl, ?_⟩
          have hBo28 : Cd (lg2_13 = 0 ∧ lb < 19999) (Fx [50] (lb + 1) A A11) := Cd_mk (fun hC => Fx_f (Cd_ap hBo0 (by omega)) hF15 (by decide))
          refine jx_go (tg := 167) rfl rfl ?_
          refine jx_rt (v := none) rfl rfl rfl rfl rfl rfl ?_
          exact ⟨_, _, st2_12, lg2_13, lb, rfl, rfl, hW14, hF26, hC27, (e17), (e18), ((hF15.1 77 rfl).trans (e_lb)), by omega, by omega, by omega, by omega, by omega, (Cd_mk (fun hC => by omega)), by omega, (Cd_mk (fun hC => Cd_ap hBo28 (by omega))), (Cd_mk (fun hC => (gD_2 (by omega) (Cd_ap p24 (by omega)) (by first | exact adf_4 (by omega) | exact adf_7 (by omega) | exact adf_1 (by omega)) (by first | exact adv_11 (by omega) | exact adv_12 (by omega) | exact adv_13 (by omega) | exact (adv_w (by omega)).trans (by omega))))), trivial⟩
        · have _q := h9
          refine jx_ar (pc_q := 123) (st_q := [.int (i32 (12)), .int (i32 (4)), .ref 66]) rfl rfl rfl rfl ?_
          refine jx_go (tg := 128) rfl rfl ?_
          refine jx_vr (pc_q := 131) (as := [.int (i32 (4)), .int (i32 (12))]) (st := []) rfl rfl rfl rfl ⟨rfl, rfl, Nat.le_of_ble_eq_true rfl⟩ rfl rfl (c_emit (dd := d) (hd := by omega) (hW := hW) (fn := 4) (v := 12) (st := st) (e_st := show G 70 = st from (e_st)) (lg := lg) (e_lg := show G 79 = lg from (e_lg))  (h_fn := ⟨(by decide), (by decide)⟩) (h_v := ⟨(by decide), (by decide)⟩)  (p_0 := by omega) (p_1 := by omega)) (fun o V_q hq => ?_)
          obtain ⟨G29, A30, st2_31, lg2_32, rfl, rfl, hW33, hF34, hQ35, e36, e37, p38, p39, p40, p41, p42, p43, -⟩ := hq
          have hF45 := Fr_tr hF0 hF34 (Fr_sub (by decide)) (Fr_sub (by decide))
          have hC46 := Fx_tr hC0 hQ35 (by omega)
          have bst2_31 : (-2147483648 : Int) ≤ st2_31 ∧ st2_31 ≤ 2147483647 := e36 ▸ hW33.1 70
          have blg2_32 : (0 : Int) ≤ lg2_32 ∧ lg2_32 ≤ 1 := e37 ▸ hW33.1 79
          refine .inl ⟨rfl, ?_⟩
          have hBo47 : Cd (lg2_32 = 0 ∧ lb < 19999) (Fx [50] (lb + 1) A A30) := Cd_mk (fun hC => Fx_f (Cd_ap hBo0 (by omega)) hF34 (by decide))
          refine jx_go (tg := 167) rfl rfl ?_
          refine jx_rt (v := none) rfl rfl rfl rfl rfl rfl ?_
          exact ⟨_, _, st2_31, lg2_32, lb, rfl, rfl, hW33, hF45, hC46, (e36), (e37), ((hF34.1 77 rfl).trans (e_lb)), by omega, by omega, by omega, by omega, by omega, (Cd_mk (fun hC => by omega)), by omega, (Cd_mk (fun hC => Cd_ap hBo47 (by omega))), (Cd_mk (fun hC => (gD_2 (by omega) (Cd_ap p43 (by omega)) (by first | exact adf_4 (by omega) | exact adf_7 (by omega) | exact adf_1 (by omega)) (by first | exact adv_11 (by omega) | exact adv_12 (by omega) | exact adv_13 (by omega) | exact (adv_w (by omega)).trans (by omega))))), trivial⟩
      · have _q := h8
        refine jx_ld (pc_q := 108) (l_q := L4) (st_q := [.int (i32 (T0 7 (T0 17 (x).toNat).toNat))]) rfl (jl_iloadn gL4_3) ?_
        refine jx_ar (pc_q := 110) (st_q := [.int (i32 (13)), .int (i32 (T0 7 (T0 17 (x).toNat).toNat))]) rfl rfl rfl rfl ?_
        refine jx_icmp_ne (pc_q := 113) (tg := 134) rfl rfl rfl (Int.le_trans (by decide : (-2147483648 : Int) ≤ 0) b3.1) (Int.le_trans b3.2 (by decide : (14 : Int) ≤ 2147483647)) (by decide) (by decide) (fun h48 => ?_) (fun h48 => ?_)
        · have _q := h48
          refine jx_ld (pc_q := 135) (l_q := L4) (st_q := [.ref 66]) rfl (jl_aloadn gL4_0) ?_
          refine jx_ld (pc_q := 136) (l_q := L4) (st_q := [.int (i32 (T0 7 (T0 17 (x).toNat).toNat)), .ref 66]) rfl (jl_iloadn gL4_3) ?_
          refine jx_ar (pc_q := 138) (st_q := [.int (i32 (6)), .int (i32 (T0 7 (T0 17 (x).toNat).toNat)), .ref 66]) rfl rfl rfl rfl ?_
          refine jx_icmp_eq (pc_q := 141) (tg := 153) rfl rfl rfl (Int.le_trans (by decide : (-2147483648 : Int) ≤ 0) b3.1) (Int.le_trans b3.2 (by decide : (14 : Int) ≤ 2147483647)) (by decide) (by decide) (fun h49 => ?_) (fun h49 => ?_)
          · have _q := h49
            refine jx_ar (pc_q := 155) (st_q := [.int (i32 (7)), .ref 66]) rfl rfl rfl rfl ?_
            refine jx_go (tg := 159) rfl rfl ?_
            refine jx_ld (pc_q := 160) (l_q := L4) (st_q := [.ref 66, .int (i32 (7)), .ref 66]) rfl (jl_aloadn gL4_0) ?_
            refine jx_ld (pc_q := 161) (l_q := L4) (st_q := [.int (i32 (T0 17 (x).toNat)), .ref 66, .int (i32 (7)), .ref 66]) rfl (jl_iloadn gL4_2) ?_
            refine jx_vr (pc_q := 164) (as := [.int (i32 (T0 17 (x).toNat))]) (st := [.int (i32 (7)), .ref 66]) rfl rfl rfl rfl ⟨rfl, rfl, Nat.le_of_ble_eq_true rfl⟩ rfl rfl (c_wordOf (dd := d) (hd := by omega) (hW := hW) (s := T0 17 (x).toNat) (nw := nw) (e_nw := show G 81 = nw from (e_nw))  (h_s := ⟨(Int.le_trans (by decide : (-2147483648 : Int) ≤ -2147483648) b1.1), (Int.le_trans b1.2 (by decide : (2147483647 : Int) ≤ 2147483647))⟩)  (p_0 := p_0) (p_1 := p_1) (p_2 := p_2) (p_3 := p_3) (p_4 := by omega) (p_5 := by omega) (p_6 := by omega) (p_7 := by omega) (p_8 := (show Vs (T0 17 (x).toNat).toNat from p_13.2.2.1.2.2)) (p_9 := by omega)) (fun o V_q hq => ?_)
            obtain ⟨r50, rfl, rfl, b51, p52, -⟩ := hq
            refine .inr ⟨_, rfl, ?_⟩
            refine jx_vr (pc_q := 167) (as := [.int (i32 (7)), .int (i32 (r50))]) (st := []) rfl rfl rfl rfl ⟨rfl, rfl, Nat.le_of_ble_eq_true rfl⟩ rfl rfl (c_emit (dd := d) (hd := by omega) (hW := hW) (fn := 7) (v := r50) (st := st) (e_st := show G 70 = st from (e_st)) (lg := lg) (e_lg := show G 79 = lg from (e_lg))  (h_fn := ⟨(by decide), (by decide)⟩) (h_v := ⟨(Int.le_trans (by decide : (-2147483648 : Int) ≤ -2147483648) b51.1), (Int.le_trans b51.2 (by decide : (2147483647 : Int) ≤ 2147483647))⟩)  (p_0 := by omega) (p_1 := by omega)) (fun o V_q hq => ?_)
            obtain ⟨G54, A55, st2_56, lg2_57, rfl, rfl, hW58, hF59, hQ60, e61, e62, p63, p64, p65, p66, p67, p68, -⟩ := hq
            have hF70 := Fr_tr hF0 hF59 (Fr_sub (by decide)) (Fr_sub (by decide))
            have hC71 := Fx_tr hC0 hQ60 (by omega)
            have bst2_56 : (-2147483648 : Int) ≤ st2_56 ∧ st2_56 ≤ 2147483647 := e61 ▸ hW58.1 70
            have blg2_57 : (0 : Int) ≤ lg2_57 ∧ lg2_57 ≤ 1 := e62 ▸ hW58.1 79
            refine .inl ⟨rfl, ?_⟩
            have hBo72 : Cd (lg2_57 = 0 ∧ lb < 19999) (Fx [50] (lb + 1) A A55) := Cd_mk (fun hC => Fx_f (Cd_ap hBo0 (by omega)) hF59 (by decide))
            refine jx_rt (v := none) rfl rfl rfl rfl rfl rfl ?_
            exact ⟨_, _, st2_56, lg2_57, lb, rfl, rfl, hW58, hF70, hC71, (e61), (e62), ((hF59.1 77 rfl).trans (e_lb)), by omega, by omega, by omega, by omega, by omega, (Cd_mk (fun hC => by omega)), by omega, (Cd_mk (fun hC => Cd_ap hBo72 (by omega))), (Cd_mk (fun hC => (gD_2 (by omega) (Cd_ap p68 (by omega)) (by first | exact adf_4 (by omega) | exact adf_7 (by omega) | exact adf_1 (by omega)) (by first | exact adv_11 (by omega) | exact adv_12 (by omega) | exact adv_13 (by omega) | exact (adv_w (by omega)).trans (by omega))))), trivial⟩
          · have _q := h49
            refine jx_ld (pc_q := 142) (l_q := L4) (st_q := [.int (i32 (T0 7 (T0 17 (x).toNat).toNat)), .ref 66]) rfl (jl_iloadn gL4_3) ?_
            refine jx_ar (pc_q := 144) (st_q := [.int (i32 (8)), .int (i32 (T0 7 (T0 17 (x).toNat).toNat)), .ref 66]) rfl rfl rfl rfl ?_
            refine jx_icmp_eq (pc_q := 147) (tg := 153) rfl rfl rfl (Int.le_trans (by decide : (-2147483648 : Int) ≤ 0) b3.1) (Int.le_trans b3.2 (by decide : (14 : Int) ≤ 2147483647)) (by decide) (by decide) (fun h73 => ?_) (fun h73 => ?_)
            · have _q := h73
              refine jx_ar (pc_q := 155) (st_q := [.int (i32 (7)), .ref 66]) rfl rfl rfl rfl ?_
              refine jx_go (tg := 159) rfl rfl ?_
              refine jx_ld (pc_q := 160) (l_q := L4) (st_q := [.ref 66, .int (i32 (7)), .ref 66]) rfl (jl_aloadn gL4_0) ?_
              refine jx_ld (pc_q := 161) (l_q := L4) (st_q := [.int (i32 (T0 17 (x).toNat)), .ref 66, .int (i32 (7)), .ref 66]) rfl (jl_iloadn gL4_2) ?_
              refine jx_vr (pc_q := 164) (as := [.int (i32 (T0 17 (x).toNat))]) (st := [.int (i32 (7)), .ref 66]) rfl rfl rfl rfl ⟨rfl, rfl, Nat.le_of_ble_eq_true rfl⟩ rfl rfl (c_wordOf (dd := d) (hd := by omega) (hW := hW) (s := T0 17 (x).toNat) (nw := nw) (e_nw := show G 81 = nw from (e_nw))  (h_s := ⟨(Int.le_trans (by decide : (-2147483648 : Int) ≤ -2147483648) b1.1), (Int.le_trans b1.2 (by decide : (2147483647 : Int) ≤ 2147483647))⟩)  (p_0 := p_0) (p_1 := p_1) (p_2 := p_2) (p_3 := p_3) (p_4 := by omega) (p_5 := by omega) (p_6 := by omega) (p_7 := by omega) (p_8 := (show Vs (T0 17 (x).toNat).toNat from p_13.2.2.1.2.2)) (p_9 := by omega)) (fun o V_q hq => ?_)
              obtain ⟨r74, rfl, rfl, b75, p76, -⟩ := hq
              refine .inr ⟨_, rfl, ?_⟩
              refine jx_vr (pc_q := 167) (as := [.int (i32 (7)), .int (i32 (r74))]) (st := []) rfl rfl rfl rfl ⟨rfl, rfl, Nat.le_of_ble_eq_true rfl⟩ rfl rfl (c_emit (dd := d) (hd := by omega) (hW := hW) (fn := 7) (v := r74) (st := st) (e_st := show G 70 = st from (e_st)) (lg := lg) (e_lg := show G 79 = lg from (e_lg))  (h_fn := ⟨(by decide), (by decide)⟩) (h_v := ⟨(Int.le_trans (by decide : (-2147483648 : Int) ≤ -2147483648) b75.1), (Int.le_trans b75.2 (by decide : (2147483647 : Int) ≤ 2147483647))⟩)  (p_0 := by omega) (p_1 := by omega)) (fun o V_q hq => ?_)
              obtain ⟨G78, A79, st2_80, lg2_81, rfl, rfl, hW82, hF83, hQ84, e85, e86, p87, p88, p89, p90, p91, p92, -⟩ := hq
              have hF94 := Fr_tr hF0 hF83 (Fr_sub (by decide)) (Fr_sub (by decide))
              have hC95 := Fx_tr hC0 hQ84 (by omega)
              have bst2_80 : (-2147483648 : Int) ≤ st2_80 ∧ st2_80 ≤ 2147483647 := e85 ▸ hW82.1 70
              have blg2_81 : (0 : Int) ≤ lg2_81 ∧ lg2_81 ≤ 1 := e86 ▸ hW82.1 79
              refine .inl ⟨rfl, ?_⟩
              have hBo96 : Cd (lg2_81 = 0 ∧ lb < 19999) (Fx [50] (lb + 1) A A79) := Cd_mk (fun hC => Fx_f (Cd_ap hBo0 (by omega)) hF83 (by decide))
              refine jx_rt (v := none) rfl rfl rfl rfl rfl rfl ?_
              exact ⟨_, _, st2_80, lg2_81, lb, rfl, rfl, hW82, hF94, hC95, (e85), (e86), ((hF83.1 77 rfl).trans (e_lb)), by omega, by omega, by omega, by omega, by omega, (Cd_mk (fun hC => by omega)), by omega, (Cd_mk (fun hC => Cd_ap hBo96 (by omega))), (Cd_mk (fun hC => (gD_2 (by omega) (Cd_ap p92 (by omega)) (by first | exact adf_4 (by omega) | exact adf_7 (by omega) | exact adf_1 (by omega)) (by first | exact adv_11 (by omega) | exact adv_12 (by omega) | exact adv_13 (by omega) | exact (adv_w (by omega)).trans (by omega))))), trivial⟩
            · have _q := h73
              refine jx_ld (pc_q := 148) (l_q := L4) (st_q := [.int (i32 (T0 7 (T0 17 (x).toNat).toNat)), .ref 66]) rfl (jl_iloadn gL4_3) ?_
              refine jx_ar (pc_q := 150) (st_q := [.int (i32 (7)), .int (i32 (T0 7 (T0 17 (x).toNat).toNat)), .ref 66]) rfl rfl rfl rfl ?_
              refine jx_icmp_ne (pc_q := 153) (tg := 158) rfl rfl rfl (Int.le_trans (by decide : (-2147483648 : Int) ≤ 0) b3.1) (Int.le_trans b3.2 (by decide : (14 : Int) ≤ 2147483647)) (by decide) (by decide) (fun h97 => ?_) (fun h97 => ?_)
              · have _q := h97
                refine jx_ar (pc_q := 159) (st_q := [.int (i32 (1)), .ref 66]) rfl rfl rfl rfl ?_
                refine jx_ld (pc_q := 160) (l_q := L4) (st_q := [.ref 66, .int (i32 (1)), .ref 66]) rfl (jl_aloadn gL4_0) ?_
                refine jx_ld (pc_q := 161) (l_q := L4) (st_q := [.int (i32 (T0 17 (x).toNat)), .ref 66, .int (i32 (1)), .ref 66]) rfl (jl_iloadn gL4_2) ?_
                refine jx_vr (pc_q := 164) (as := [.int (i32 (T0 17 (x).toNat))]) (st := [.int (i32 (1)), .ref 66]) rfl rfl rfl rfl ⟨rfl, rfl, Nat.le_of_ble_eq_true rfl⟩ rfl rfl (c_wordOf (dd := d) (hd := by omega) (hW := hW) (s := T0 17 (x).toNat) (nw := nw) (e_nw := show G 81 = nw from (e_nw))  (h_s := ⟨(Int.le_trans (by decide : (-2147483648 : Int) ≤ -2147483648) b1.1), (Int.le_trans b1.2 (by decide : (2147483647 : Int) ≤ 2147483647))⟩)  (p_0 := p_0) (p_1 := p_1) (p_2 := p_2) (p_3 := p_3) (p_4 := by omega) (p_5 := by omega) (p_6 := by omega) (p_7 := by omega) (p_8 := (show Vs (T0 17 (x).toNat).toNat from p_13.2.2.1.2.2)) (p_9 := by omega)) (fun o V_q hq => ?_)
                obtain ⟨r98, rfl, rfl, b99, p100, -⟩ := hq
                refine .inr ⟨_, rfl, ?_⟩
                refine jx_vr (pc_q := 167) (as := [.int (i32 (1)), .int (i32 (r98))]) (st := []) rfl rfl rfl rfl ⟨rfl, rfl, Nat.le_of_ble_eq_true rfl⟩ rfl rfl (c_emit (dd := d) (hd := by omega) (hW := hW) (fn := 1) (v := r98) (st := st) (e_st := show G 70 = st from (e_st)) (lg := lg) (e_lg := show G 79 = lg from (e_lg))  (h_fn := ⟨(by decide), (by decide)⟩) (h_v := ⟨(Int.le_trans (by decide : (-2147483648 : Int) ≤ -2147483648) b99.1), (Int.le_trans b99.2 (by decide : (2147483647 : Int) ≤ 2147483647))⟩)  (p_0 := by omega) (p_1 := by omega)) (fun o V_q hq => ?_)
                obtain ⟨G102, A103, st2_104, lg2_105, rfl, rfl, hW106, hF107, hQ108, e109, e110, p111, p112, p113, p114, p115, p116, -⟩ := hq
                have hF118 := Fr_tr hF0 hF107 (Fr_sub (by decide)) (Fr_sub (by decide))
                have hC119 := Fx_tr hC0 hQ108 (by omega)
                have bst2_104 : (-2147483648 : Int) ≤ st2_104 ∧ st2_104 ≤ 2147483647 := e109 ▸ hW106.1 70
                have blg2_105 : (0 : Int) ≤ lg2_105 ∧ lg2_105 ≤ 1 := e110 ▸ hW106.1 79
                refine .inl ⟨rfl, ?_⟩
                have hBo120 : Cd (lg2_105 = 0 ∧ lb < 19999) (Fx [50] (lb + 1) A A103) := Cd_mk (fun hC => Fx_f (Cd_ap hBo0 (by omega)) hF107 (by decide))
                refine jx_rt (v := none) rfl rfl rfl rfl rfl rfl ?_
                exact ⟨_, _, st2_104, lg2_105, lb, rfl, rfl, hW106, hF118, hC119, (e109), (e110), ((hF107.1 77 rfl).trans (e_lb)), by omega, by omega, by omega, by omega, by omega, (Cd_mk (fun hC => by omega)), by omega, (Cd_mk (fun hC => Cd_ap hBo120 (by omega))), (Cd_mk (fun hC => (gD_2 (by omega) (Cd_ap p116 (by omega)) (by first | exact adf_4 (by omega) | exact adf_7 (by omega) | exact adf_1 (by omega)) (by first | exact adv_11 (by omega) | exact adv_12 (by omega) | exact adv_13 (by omega) | exact (adv_w (by omega)).trans (by omega))))), trivial⟩
              · have _q := h97
                refine jx_ar (pc_q := 155) (st_q := [.int (i32 (7)), .ref 66]) rfl rfl rfl rfl ?_
                refine jx_go (tg := 159) rfl rfl ?_
                refine jx_ld (pc_q := 160) (l_q := L4) (st_q := [.ref 66, .int (i32 (7)), .ref 66]) rfl (jl_aloadn gL4_0) ?_
                refine jx_ld (pc_q := 161) (l_q := L4) (st_q := [.int (i32 (T0 17 (x).toNat)), .ref 66, .int (i32 (7)), .ref 66]) rfl (jl_iloadn gL4_2) ?_
                refine jx_vr (pc_q := 164) (as := [.int (i32 (T0 17 (x).toNat))]) (st := [.int (i32 (7)), .ref 66]) rfl rfl rfl rfl ⟨rfl, rfl, Nat.le_of_ble_eq_true rfl⟩ rfl rfl (c_wordOf (dd := d) (hd := by omega) (hW := hW) (s := T0 17 (x).toNat) (nw := nw) (e_nw := show G 81 = nw from (e_nw))  (h_s := ⟨(Int.le_trans (by decide : (-2147483648 : Int) ≤ -2147483648) b1.1), (Int.le_trans b1.2 (by decide : (2147483647 : Int) ≤ 2147483647))⟩)  (p_0 := p_0) (p_1 := p_1) (p_2 := p_2) (p_3 := p_3) (p_4 := by omega) (p_5 := by omega) (p_6 := by omega) (p_7 := by omega) (p_8 := (show Vs (T0 17 (x).toNat).toNat from p_13.2.2.1.2.2)) (p_9 := by omega)) (fun o V_q hq => ?_)
                obtain ⟨r121, rfl, rfl, b122, p123, -⟩ := hq
                refine .inr ⟨_, rfl, ?_⟩
                refine jx_vr (pc_q := 167) (as := [.int (i32 (7)), .int (i32 (r121))]) (st := []) rfl rfl rfl rfl ⟨rfl, rfl, Nat.le_of_ble_eq_true rfl⟩ rfl rfl (c_emit (dd := d) (hd := by omega) (hW := hW) (fn := 7) (v := r121) (st := st) (e_st := show G 70 = st from (e_st)) (lg := lg) (e_lg := show G 79 = lg from (e_lg))  (h_fn := ⟨(by decide), (by decide)⟩) (h_v := ⟨(Int.le_trans (by decide : (-2147483648 : Int) ≤ -2147483648) b122.1), (Int.le_trans b122.2 (by decide : (2147483647 : Int) ≤ 2147483647))⟩)  (p_0 := by omega) (p_1 := by omega)) (fun o V_q hq => ?_)
                obtain ⟨G125, A126, st2_127, lg2_128, rfl, rfl, hW129, hF130, hQ131, e132, e133, p134, p135, p136, p137, p138, p139, -⟩ := hq
                have hF141 := Fr_tr hF0 hF130 (Fr_sub (by decide)) (Fr_sub (by decide))
                have hC142 := Fx_tr hC0 hQ131 (by omega)
                have bst2_127 : (-2147483648 : Int) ≤ st2_127 ∧ st2_127 ≤ 2147483647 := e132 ▸ hW129.1 70
                have blg2_128 : (0 : Int) ≤ lg2_128 ∧ lg2_128 ≤ 1 := e133 ▸ hW129.1 79
                refine .inl ⟨rfl, ?_⟩
                have hBo143 : Cd (lg2_128 = 0 ∧ lb < 19999) (Fx [50] (lb + 1) A A126) := Cd_mk (fun hC => Fx_f (Cd_ap hBo0 (by omega)) hF130 (by decide))
                refine jx_rt (v := none) rfl rfl rfl rfl rfl rfl ?_
                exact ⟨_, _, st2_127, lg2_128, lb, rfl, rfl, hW129, hF141, hC142, (e132), (e133), ((hF130.1 77 rfl).trans (e_lb)), by omega, by omega, by omega, by omega, by omega, (Cd_mk (fun hC => by omega)), by omega, (Cd_mk (fun hC => Cd_ap hBo143 (by omega))), (Cd_mk (fun hC => (gD_2 (by omega) (Cd_ap p139 (by omega)) (by first | exact adf_4 (by omega) | exact adf_7 (by omega) | exact adf_1 (by omega)) (by first | exact adv_11 (by omega) | exact adv_12 (by omega) | exact adv_13 (by omega) | exact (adv_w (by omega)).trans (by omega))))), trivial⟩
        · have _q := h48
          refine jx_ld (pc_q := 114) (l_q := L4) (st_q := [.ref 66]) rfl (jl_aloadn gL4_0) ?_
          refine jx_ar (pc_q := 115) (st_q := [.int (i32 (4)), .ref 66]) rfl rfl rfl rfl ?_
          refine jx_ld (pc_q := 116) (l_q := L4) (st_q := [.int (i32 (T0 7 (T0 17 (x).toNat).toNat)), .int (i32 (4)), .ref 66]) rfl (jl_iloadn gL4_3) ?_
          refine jx_ar (pc_q := 118) (st_q := [.int (i32 (12)), .int (i32 (T0 7 (T0 17 (x).toNat).toNat)), .int (i32 (4)), .ref 66]) rfl rfl rfl rfl ?_
          refine jx_icmp_ne (pc_q := 121) (tg := 126) rfl rfl rfl (Int.le_trans (by decide : (-2147483648 : Int) ≤ 0) b3.1) (Int.le_trans b3.2 (by decide : (14 : Int) ≤ 2147483647)) (by decide) (by decide) (fun h144 => ?_) (fun h144 => ?_)
          · have _q := h144
            refine jx_ar (pc_q := 128) (st_q := [.int (i32 (13)), .int (i32 (4)), .ref 66]) rfl rfl rfl rfl ?_
            refine jx_vr (pc_q := 131) (as := [.int (i32 (4)), .int (i32 (13))]) (st := []) rfl rfl rfl rfl ⟨rfl, rfl, Nat.le_of_ble_eq_true rfl⟩ rfl rfl (c_emit (dd := d) (hd := by omega) (hW := hW) (fn := 4) (v := 13) (st := st) (e_st := show G 70 = st from (e_st)) (lg := lg) (e_lg := show G 79 = lg from (e_lg))  (h_fn := ⟨(by decide), (by decide)⟩) (h_v := ⟨(by decide), (by decide)⟩)  (p_0 := by omega) (p_1 := by omega)) (fun o V_q hq => ?_)
            obtain ⟨G145, A146, st2_147, lg2_148, rfl, rfl, hW149, hF150, hQ151, e152, e153, p154, p155, p156, p157, p158, p159, -⟩ := hq
            have hF161 := Fr_tr hF0 hF150 (Fr_sub (by decide)) (Fr_sub (by decide))
            have hC162 := Fx_tr hC0 hQ151 (by omega)
            have bst2_147 : (-2147483648 : Int) ≤ st2_147 ∧ st2_147 ≤ 2147483647 := e152 ▸ hW149.1 70
            have blg2_148 : (0 : Int) ≤ lg2_148 ∧ lg2_148 ≤ 1 := e153 ▸ hW149.1 79
            refine .inl ⟨rfl, ?_⟩
            have hBo163 : Cd (lg2_148 = 0 ∧ lb < 19999) (Fx [50] (lb + 1) A A146) := Cd_mk (fun hC => Fx_f (Cd_ap hBo0 (by omega)) hF150 (by decide))
            refine jx_go (tg := 167) rfl rfl ?_
            refine jx_rt (v := none) rfl rfl rfl rfl rfl rfl ?_
            exact ⟨_, _, st2_147, lg2_148, lb, rfl, rfl, hW149, hF161, hC162, (e152), (e153), ((hF150.1 77 rfl).trans (e_lb)), by omega, by omega, by omega, by omega, by omega, (Cd_mk (fun hC => by omega)), by omega, (Cd_mk (fun hC => Cd_ap hBo163 (by omega))), (Cd_mk (fun hC => (gD_2 (by omega) (Cd_ap p159 (by omega)) (by first | exact adf_4 (by omega) | exact adf_7 (by omega) | exact adf_1 (by omega)) (by first | exact adv_11 (by omega) | exact adv_12 (by omega) | exact adv_13 (by omega) | exact (adv_w (by omega)).trans (by omega))))), trivial⟩
          · have _q := h144
            refine jx_ar (pc_q := 123) (st_q := [.int (i32 (12)), .int (i32 (4)), .ref 66]) rfl rfl rfl rfl ?_
            refine jx_go (tg := 128) rfl rfl ?_
            refine jx_vr (pc_q := 131) (as := [.int (i32 (4)), .int (i32 (12))]) (st := []) rfl rfl rfl rfl ⟨rfl, rfl, Nat.le_of_ble_eq_true rfl⟩ rfl rfl (c_emit (dd := d) (hd := by omega) (hW := hW) (fn := 4) (v := 12) (st := st) (e_st := show G 70 = st from (e_st)) (lg := lg) (e_lg := show G 79 = lg from (e_lg))  (h_fn := ⟨(by decide), (by decide)⟩) (h_v := ⟨(by decide), (by decide)⟩)  (p_0 := by omega) (p_1 := by omega)) (fun o V_q hq => ?_)
            obtain ⟨G164, A165, st2_166, lg2_167, rfl, rfl, hW168, hF169, hQ170, e171, e172, p173, p174, p175, p176, p177, p178, -⟩ := hq
            have hF180 := Fr_tr hF0 hF169 (Fr_sub (by decide)) (Fr_sub (by decide))
            have hC181 := Fx_tr hC0 hQ170 (by omega)
            have bst2_166 : (-2147483648 : Int) ≤ st2_166 ∧ st2_166 ≤ 2147483647 := e171 ▸ hW168.1 70
            have blg2_167 : (0 : Int) ≤ lg2_167 ∧ lg2_167 ≤ 1 := e172 ▸ hW168.1 79
            refine .inl ⟨rfl, ?_⟩
            have hBo182 : Cd (lg2_167 = 0 ∧ lb < 19999) (Fx [50] (lb + 1) A A165) := Cd_mk (fun hC => Fx_f (Cd_ap hBo0 (by omega)) hF169 (by decide))
            refine jx_go (tg := 167) rfl rfl ?_
            refine jx_rt (v := none) rfl rfl rfl rfl rfl rfl ?_
            exact ⟨_, _, st2_166, lg2_167, lb, rfl, rfl, hW168, hF180, hC181, (e171), (e172), ((hF169.1 77 rfl).trans (e_lb)), by omega, by omega, by omega, by omega, by omega, (Cd_mk (fun hC => by omega)), by omega, (Cd_mk (fun hC => Cd_ap hBo182 (by omega))), (Cd_mk (fun hC => (gD_2 (by omega) (Cd_ap p178 (by omega)) (by first | exact adf_4 (by omega) | exact adf_7 (by omega) | exact adf_1 (by omega)) (by first | exact adv_11 (by omega) | exact adv_12 (by omega) | exact adv_13 (by omega) | exact (adv_w (by omega)).trans (by omega))))), trivial⟩
    · have _q := h7
      refine jx_ld (pc_q := 88) (l_q := L4) (st_q := [.ref 66]) rfl (jl_aloadn gL4_0) ?_
      refine jx_ar (pc_q := 89) (st_q := [.int (i32 (4)), .ref 66]) rfl rfl rfl rfl ?_
      refine jx_ld (pc_q := 90) (l_q := L4) (st_q := [.ref 66, .int (i32 (4)), .ref 66]) rfl (jl_aloadn gL4_0) ?_
      refine jr_get (pc_q := 93) (i := 26) (v := .ref 79) rfl rfl (by decide) rfl rfl ?_
      refine jx_ld (pc_q := 94) (l_q := L4) (st_q := [.int (i32 (T0 17 (x).toNat)), .ref 79, .int (i32 (4)), .ref 66]) rfl (jl_iloadn gL4_2) ?_
      have b183 : (0 : Int) ≤ T0 12 (T0 17 (x).toNat).toNat ∧ T0 12 (T0 17 (x).toNat).toNat ≤ 24 := hWT.2 12 _
      refine jr_ldv (pc_q := 95) (i := 12) (m := 260) (z := T0 17 (x).toNat) (y := T0 12 (T0 17 (x).toNat).toNat) rfl (by decide) rfl (by decide) (by omega) (by omega) rfl (show A 12 (T0 17 (x).toNat).toNat = T0 12 (T0 17 (x).toNat).toNat from (congrFun (p_0 12 rfl) _)) ?_
      refine jx_vr (pc_q := 98) (as := [.int (i32 (4)), .int (i32 (T0 12 (T0 17 (x).toNat).toNat))]) (st := []) rfl rfl rfl rfl ⟨rfl, rfl, Nat.le_of_ble_eq_true rfl⟩ rfl rfl (c_emit (dd := d) (hd := by omega) (hW := hW) (fn := 4) (v := T0 12 (T0 17 (x).toNat).toNat) (st := st) (e_st := show G 70 = st from (e_st)) (lg := lg) (e_lg := show G 79 = lg from (e_lg))  (h_fn := ⟨(by decide), (by decide)⟩) (h_v := ⟨(Int.le_trans (by decide : (-2147483648 : Int) ≤ 0) b183.1), (Int.le_trans b183.2 (by decide : (24 : Int) ≤ 2147483647))⟩)  (p_0 := by omega) (p_1 := by omega)) (fun o V_q hq => ?_)
      obtain ⟨G184, A185, st2_186, lg2_187, rfl, rfl, hW188, hF189, hQ190, e191, e192, p193, p194, p195, p196, p197, p198, -⟩ := hq
      have hF200 := Fr_tr hF0 hF189 (Fr_sub (by decide)) (Fr_sub (by decide))
      have hC201 := Fx_tr hC0 hQ190 (by omega)
      have bst2_186 : (-2147483648 : Int) ≤ st2_186 ∧ st2_186 ≤ 2147483647 := e191 ▸ hW188.1 70
      have blg2_187 : (0 : Int) ≤ lg2_187 ∧ lg2_187 ≤ 1 := e192 ▸ hW188.1 79
      refine .inl ⟨rfl, ?_⟩
      have hBo202 : Cd (lg2_187 = 0 ∧ lb < 19999) (Fx [50] (lb + 1) A A185) := Cd_mk (fun hC => Fx_f (Cd_ap hBo0 (by omega)) hF189 (by decide))
      refine jx_go (tg := 167) rfl rfl ?_
      refine jx_rt (v := none) rfl rfl rfl rfl rfl rfl ?_
      exact ⟨_, _, st2_186, lg2_187, lb, rfl, rfl, hW188, hF200, hC201, (e191), (e192), ((hF189.1 77 rfl).trans (e_lb)), by omega, by omega, by omega, by omega, by omega, (Cd_mk (fun hC => by omega)), by omega, (Cd_mk (fun hC => Cd_ap hBo202 (by omega))), (Cd_mk (fun hC => (gD_2 (by omega) (Cd_ap p198 (by omega)) (by first | exact adf_4 (by omega) | exact adf_7 (by omega) | exact adf_1 (by omega)) (by first | exact adv_11 (by omega) | exact adv_12 (by omega) | exact adv_13 (by omega) | exact (adv_w (by omega)).trans (by omega))))), trivial⟩
  · have _q := h6
    have hq3 := pX_i3 p_13 (by omega); have hk9 := hq3.1
    refine jx_ld (pc_q := 25) (l_q := L4) (st_q := [.ref 66]) rfl (jl_aloadn gL4_0) ?_
    refine jx_ld (pc_q := 26) (l_q := L4) (st_q := [.ref 66, .ref 66]) rfl (jl_aloadn gL4_0) ?_
    refine jr_get (pc_q := 29) (i := 35) (v := .ref 85) rfl rfl (by decide) rfl rfl ?_
    refine jx_ld (pc_q := 30) (l_q := L4) (st_q := [.int (i32 (x)), .ref 85, .ref 66]) rfl (jl_iloadn gL4_1) ?_
    have b203 : (-2147483648 : Int) ≤ T0 18 (x).toNat ∧ T0 18 (x).toNat ≤ 2147483647 := hWT.2 18 _
    refine jr_ldv (pc_q := 31) (i := 18) (m := 7000) (z := x) (y := T0 18 (x).toNat) rfl (by decide) rfl (by decide) (by omega) (by omega) rfl (show A 18 (x).toNat = T0 18 (x).toNat from (congrFun (p_0 18 rfl) _)) ?_
    refine jx_vr (pc_q := 34) (as := [.int (i32 (T0 18 (x).toNat))]) (st := []) rfl rfl rfl rfl ⟨rfl, rfl, Nat.le_of_ble_eq_true rfl⟩ rfl rfl (hG (dd := d) (hd := by omega) (hW := hW) (e := T0 18 (x).toNat) (lo := lo) (hi := x) (st := st) (e_st := show G 70 = st from (e_st)) (lg := lg) (e_lg := show G 79 = lg from (e_lg)) (lb := lb) (e_lb := show G 77 = lb from (e_lb)) (nw := nw) (e_nw := show G 81 = nw from (e_nw))  (h_e := ⟨(Int.le_trans (by decide : (-2147483648 : Int) ≤ -2147483648) b203.1), (Int.le_trans b203.2 (by decide : (2147483647 : Int) ≤ 2147483647))⟩)  (p_0 := p_0) (p_1 := p_1) (p_2 := p_2) (p_3 := p_3) (p_4 := by omega) (p_5 := by omega) (p_6 := by omega) (p_7 := by omega) (p_8 := by omega) (p_9 := by omega) (p_10 := by omega) (p_11 := by omega) (p_12 := by omega) (p_13 := hq3.2) (p_14 := by omega)) (fun o V_q hq => ?_)
    obtain ⟨G204, A205, st2_206, lg2_207, lb2_208, rfl, rfl, hW209, hF210, hQ211, e212, e213, e214, p215, p216, p217, p218, p219, p220, p221, p222, p223, -⟩ := hq
    have hF225 := Fr_tr hF0 hF210 (Fr_sub (by decide)) (Fr_sub (by decide))
    have hC226 := Fx_tr hC0 hQ211 (by omega)
    have bst2_206 : (-2147483648 : Int) ≤ st2_206 ∧ st2_206 ≤ 2147483647 := e212 ▸ hW209.1 70
    have blg2_207 : (0 : Int) ≤ lg2_207 ∧ lg2_207 ≤ 1 := e213 ▸ hW209.1 79
    have blb2_208 : (-2147483648 : Int) ≤ lb2_208 ∧ lb2_208 ≤ 2147483647 := e214 ▸ hW209.1 77
    refine .inl ⟨rfl, ?_⟩
    have hBo227 : Cd (lg2_207 = 0 ∧ lb2_208 < 19999) (Fx [50] (lb + 1) A A205) := Cd_mk (fun hC => Fx_tr (Cd_ap hBo0 (by omega)) (Cd_ap p222 (by omega)) (by omega))
    refine jx_ld (pc_q := 35) (l_q := L4) (st_q := [.ref 66]) rfl (jl_aloadn gL4_0) ?_
    refine jx_ar (pc_q := 36) (st_q := [.int (i32 (4)), .ref 66]) rfl rfl rfl rfl ?_
    refine jx_ld (pc_q := 37) (l_q := L4) (st_q := [.ref 66, .int (i32 (4)), .ref 66]) rfl (jl_aloadn gL4_0) ?_
    refine jr_get (pc_q := 40) (i := 22) (v := .ref 75) rfl rfl (by decide) rfl rfl ?_
    refine jx_ld (pc_q := 41) (l_q := L4) (st_q := [.int (i32 (T0 17 (x).toNat)), .ref 75, .int (i32 (4)), .ref 66]) rfl (jl_iloadn gL4_2) ?_
    have b228 : (-2147483648 : Int) ≤ T0 8 (T0 17 (x).toNat).toNat ∧ T0 8 (T0 17 (x).toNat).toNat ≤ 2147483647 := hWT.2 8 _
    refine jr_ldv (pc_q := 42) (i := 8) (m := 260) (z := T0 17 (x).toNat) (y := T0 8 (T0 17 (x).toNat).toNat) rfl (by decide) rfl (by decide) (by omega) (by omega) rfl (show A205 8 (T0 17 (x).toNat).toNat = T0 8 (T0 17 (x).toNat).toNat from (congrFun ((hF210.2 8 rfl).trans (p_0 8 rfl)) _)) ?_
    refine jx_vr (pc_q := 45) (as := [.int (i32 (4)), .int (i32 (T0 8 (T0 17 (x).toNat).toNat))]) (st := []) rfl rfl rfl rfl ⟨rfl, rfl, Nat.le_of_ble_eq_true rfl⟩ rfl rfl (c_emit (dd := d) (hd := by omega) (hW := hW209) (fn := 4) (v := T0 8 (T0 17 (x).toNat).toNat) (st := st2_206) (e_st := show G204 70 = st2_206 from (e212)) (lg := lg2_207) (e_lg := show G204 79 = lg2_207 from (e213))  (h_fn := ⟨(by decide), (by decide)⟩) (h_v := ⟨(Int.le_trans (by decide : (-2147483648 : Int) ≤ -2147483648) b228.1), (Int.le_trans b228.2 (by decide : (2147483647 : Int) ≤ 2147483647))⟩)  (p_0 := by omega) (p_1 := by omega)) (fun o V_q hq => ?_)
    obtain ⟨G229, A230, st2_231, lg2_232, rfl, rfl, hW233, hF234, hQ235, e236, e237, p238, p239, p240, p241, p242, p243, -⟩ := hq
    have hF245 := Fr_tr hF225 hF234 (Fr_sub (by decide)) (Fr_sub (by decide))
    have hC246 := Fx_tr hC226 hQ235 (by omega)
    have bst2_231 : (-2147483648 : Int) ≤ st2_231 ∧ st2_231 ≤ 2147483647 := e236 ▸ hW233.1 70
    have blg2_232 : (0 : Int) ≤ lg2_232 ∧ lg2_232 ≤ 1 := e237 ▸ hW233.1 79
    refine .inl ⟨rfl, ?_⟩
    have sf247 : Cd (lg2_232 = 0 ∧ lb2_208 < 19999) (gE T0 A230 F Sn nw (k) (T0 18 (x).toNat) (st) (st2_206) (lb) (lb2_208)) := Cd_mk (fun hC => gE_mv (Cg_fx (l0 := lb) (l1 := lb2_208) hQ235 (Fx_f (w := lb2_208 + 1) Fx_rf hF234 (by decide)) (by omega)) (by omega) (Cd_ap p223 (by omega)))
    have hBo248 : Cd (lg2_232 = 0 ∧ lb2_208 < 19999) (Fx [50] (lb + 1) A A230) := Cd_mk (fun hC => Fx_f (Cd_ap hBo227 (by omega)) hF234 (by decide))
    refine jx_ld (pc_q := 46) (l_q := L4) (st_q := [.ref 66]) rfl (jl_aloadn gL4_0) ?_
    refine jx_ar (pc_q := 48) (st_q := [.int (i32 (12)), .ref 66]) rfl rfl rfl rfl ?_
    refine jx_vr (pc_q := 51) (as := [.int (i32 (12))]) (st := []) rfl rfl rfl rfl ⟨rfl, rfl, Nat.le_of_ble_eq_true rfl⟩ rfl rfl (c_op (dd := d) (hd := by omega) (hW := hW233) (oo := 12) (st := st2_231) (e_st := show G229 70 = st2_231 from (e236)) (lg := lg2_232) (e_lg := show G229 79 = lg2_232 from (e237))  (h_oo := ⟨(by decide), (by decide)⟩)  (p_0 := by omega) (p_1 := by omega)) (fun o V_q hq => ?_)
    obtain ⟨G249, A250, st2_251, lg2_252, rfl, rfl, hW253, hF254, hQ255, e256, e257, p258, p259, p260, p261, p262, p263, -⟩ := hq
    have hF265 := Fr_tr hF245 hF254 (Fr_sub (by decide)) (Fr_sub (by decide))
    have hC266 := Fx_tr hC246 hQ255 (by omega)
    have bst2_251 : (-2147483648 : Int) ≤ st2_251 ∧ st2_251 ≤ 2147483647 := e256 ▸ hW253.1 70
    have blg2_252 : (0 : Int) ≤ lg2_252 ∧ lg2_252 ≤ 1 := e257 ▸ hW253.1 79
    refine .inl ⟨rfl, ?_⟩
    have sf267 : Cd (lg2_252 = 0 ∧ lb2_208 < 19999) (gE T0 A250 F Sn nw (k) (T0 18 (x).toNat) (st) (st2_206) (lb) (lb2_208)) := Cd_mk (fun hC => gE_mv (Cg_fx (l0 := lb) (l1 := lb2_208) hQ255 (Fx_f (w := lb2_208 + 1) Fx_rf hF254 (by decide)) (by omega)) (by omega) (Cd_ap sf247 (by omega)))
    have sf268 : Cd (lg2_252 = 0 ∧ lb2_208 < 19999) (ST A250 (st2_206) (st2_231) (4) (T0 8 (T0 17 (x).toNat).toNat)) := Cd_mk (fun hC => ST_mv (Cg_fx (l0 := 0) (l1 := 0) hQ255 (Fx_f (w := 0 + 1) Fx_rf hF254 (by decide)) (by omega)) (by omega) (Cd_ap p243 (by omega)))
    have hBo269 : Cd (lg2_252 = 0 ∧ lb2_208 < 19999) (Fx [50] (lb + 1) A A250) := Cd_mk (fun hC => Fx_f (Cd_ap hBo248 (by omega)) hF254 (by decide))
    refine jx_ld (pc_q := 52) (l_q := L4) (st_q := [.ref 66]) rfl (jl_aloadn gL4_0) ?_
    refine jx_ld (pc_q := 53) (l_q := L4) (st_q := [.int (i32 (T0 7 (T0 17 (x).toNat).toNat)), .ref 66]) rfl (jl_iloadn gL4_3) ?_
    refine jx_ar (pc_q := 55) (st_q := [.int (i32 (7)), .int (i32 (T0 7 (T0 17 (x).toNat).toNat)), .ref 66]) rfl rfl rfl rfl ?_
    refine jx_icmp_ne (pc_q := 58) (tg := 63) rfl rfl rfl (Int.le_trans (by decide : (-2147483648 : Int) ≤ 0) b3.1) (Int.le_trans b3.2 (by decide : (14 : Int) ≤ 2147483647)) (by decide) (by decide) (fun h270 => ?_) (fun h270 => ?_)
    · have _q := h270
      refine jx_ar (pc_q := 64) (st_q := [.int (i32 (1)), .ref 66]) rfl rfl rfl rfl ?_
      refine jx_ld (pc_q := 65) (l_q := L4) (st_q := [.ref 66, .int (i32 (1)), .ref 66]) rfl (jl_aloadn gL4_0) ?_
      refine jx_ld (pc_q := 66) (l_q := L4) (st_q := [.int (i32 (T0 17 (x).toNat)), .ref 66, .int (i32 (1)), .ref 66]) rfl (jl_iloadn gL4_2) ?_
      refine jx_vr (pc_q := 69) (as := [.int (i32 (T0 17 (x).toNat))]) (st := [.int (i32 (1)), .ref 66]) rfl rfl rfl rfl ⟨rfl, rfl, Nat.le_of_ble_eq_true rfl⟩ rfl rfl (c_wordOf (dd := d) (hd := by omega) (hW := hW253) (s := T0 17 (x).toNat) (nw := nw) (e_nw := show G249 81 = nw from ((hF254.1 81 rfl).trans ((hF234.1 81 rfl).trans ((hF210.1 81 rfl).trans (e_nw)))))  (h_s := ⟨(Int.le_trans (by decide : (-2147483648 : Int) ≤ -2147483648) b1.1), (Int.le_trans b1.2 (by decide : (2147483647 : Int) ≤ 2147483647))⟩)  (p_0 := (TA_fr hF265 (by decide) p_0)) (p_1 := (FA_fr (hF265.2 51 rfl) p_1)) (p_2 := (SA_fr (hF265.2 13 rfl) p_2)) (p_3 := p_3) (p_4 := by omega) (p_5 := by omega) (p_6 := by omega) (p_7 := by omega) (p_8 := (show Vs (T0 17 (x).toNat).toNat from p_13.2.2.1.2.2)) (p_9 := by omega)) (fun o V_q hq => ?_)
      obtain ⟨r271, rfl, rfl, b272, p273, -⟩ := hq
      refine .inr ⟨_, rfl, ?_⟩
      refine jx_vr (pc_q := 72) (as := [.int (i32 (1)), .int (i32 (r271))]) (st := []) rfl rfl rfl rfl ⟨rfl, rfl, Nat.le_of_ble_eq_true rfl⟩ rfl rfl (c_emit (dd := d) (hd := by omega) (hW := hW253) (fn := 1) (v := r271) (st := st2_251) (e_st := show G249 70 = st2_251 from (e256)) (lg := lg2_252) (e_lg := show G249 79 = lg2_252 from (e257))  (h_fn := ⟨(by decide), (by decide)⟩) (h_v := ⟨(Int.le_trans (by decide : (-2147483648 : Int) ≤ -2147483648) b272.1), (Int.le_trans b272.2 (by decide : (2147483647 : Int) ≤ 2147483647))⟩)  (p_0 := by omega) (p_1 := by omega)) (fun o V_q hq => ?_)
      obtain ⟨G275, A276, st2_277, lg2_278, rfl, rfl, hW279, hF280, hQ281, e282, e283, p284, p285, p286, p287, p288, p289, -⟩ := hq
      have hF291 := Fr_tr hF265 hF280 (Fr_sub (by decide)) (Fr_sub (by decide))
      have hC292 := Fx_tr hC266 hQ281 (by omega)
      have bst2_277 : (-2147483648 : Int) ≤ st2_277 ∧ st2_277 ≤ 2147483647 := e282 ▸ hW279.1 70
      have blg2_278 : (0 : Int) ≤ lg2_278 ∧ lg2_278 ≤ 1 := e283 ▸ hW279.1 79
      refine .inl ⟨rfl, ?_⟩
      have sf293 : Cd (lg2_278 = 0 ∧ lb2_208 < 19999) (gE T0 A276 F Sn nw (k) (T0 18 (x).toNat) (st) (st2_206) (lb) (lb2_208)) := Cd_mk (fun hC => gE_mv (Cg_fx (l0 := lb) (l1 := lb2_208) hQ281 (Fx_f (w := lb2_208 + 1) Fx_rf hF280 (by decide)) (by omega)) (by omega) (Cd_ap sf267 (by omega)))
      have sf294 : Cd (lg2_278 = 0 ∧ lb2_208 < 19999) (ST A276 (st2_206) (st2_231) (4) (T0 8 (T0 17 (x).toNat).toNat)) := Cd_mk (fun hC => ST_mv (Cg_fx (l0 := 0) (l1 := 0) hQ281 (Fx_f (w := 0 + 1) Fx_rf hF280 (by decide)) (by omega)) (by omega) (Cd_ap sf268 (by omega)))
      have sf295 : Cd (lg2_278 = 0 ∧ lb2_208 < 19999) (ST A276 (st2_231) (st2_251) (15) (12)) := Cd_mk (fun hC => ST_mv (Cg_fx (l0 := 0) (l1 := 0) hQ281 (Fx_f (w := 0 + 1) Fx_rf hF280 (by decide)) (by omega)) (by omega) (Cd_ap p263 (by omega)))
      have hBo296 : Cd (lg2_278 = 0 ∧ lb2_208 < 19999) (Fx [50] (lb + 1) A A276) := Cd_mk (fun hC => Fx_f (Cd_ap hBo269 (by omega)) hF280 (by decide))
      refine jx_ld (pc_q := 73) (l_q := L4) (st_q := [.ref 66]) rfl (jl_aloadn gL4_0) ?_
      refine jx_ar (pc_q := 75) (st_q := [.int (i32 (11)), .ref 66]) rfl rfl rfl rfl ?_
      refine jx_vr (pc_q := 78) (as := [.int (i32 (11))]) (st := []) rfl rfl rfl rfl ⟨rfl, rfl, Nat.le_of_ble_eq_true rfl⟩ rfl rfl (c_op (dd := d) (hd := by omega) (hW := hW279) (oo := 11) (st := st2_277) (e_st := show G275 70 = st2_277 from (e282)) (lg := lg2_278) (e_lg := show G275 79 = lg2_278 from (e283))  (h_oo := ⟨(by decide), (by decide)⟩)  (p_0 := by omega) (p_1 := by omega)) (fun o V_q hq => ?_)
      obtain ⟨G297, A298, st2_299, lg2_300, rfl, rfl, hW301, hF302, hQ303, e304, e305, p306, p307, p308, p309, p310, p311, -⟩ := hq
      have hF313 := Fr_tr hF291 hF302 (Fr_sub (by decide)) (Fr_sub (by decide))
      have hC314 := Fx_tr hC292 hQ303 (by omega)
      have bst2_299 : (-2147483648 : Int) ≤ st2_299 ∧ st2_299 ≤ 2147483647 := e304 ▸ hW301.1 70
      have blg2_300 : (0 : Int) ≤ lg2_300 ∧ lg2_300 ≤ 1 := e305 ▸ hW301.1 79
      refine .inl ⟨rfl, ?_⟩
      have sf315 : Cd (lg2_300 = 0 ∧ lb2_208 < 19999) (gE T0 A298 F Sn nw (k) (T0 18 (x).toNat) (st) (st2_206) (lb) (lb2_208)) := Cd_mk (fun hC => gE_mv (Cg_fx (l0 := lb) (l1 := lb2_208) hQ303 (Fx_f (w := lb2_208 + 1) Fx_rf hF302 (by decide)) (by omega)) (by omega) (Cd_ap sf293 (by omega)))
      have sf316 : Cd (lg2_300 = 0 ∧ lb2_208 < 19999) (ST A298 (st2_206) (st2_231) (4) (T0 8 (T0 17 (x).toNat).toNat)) := Cd_mk (fun hC => ST_mv (Cg_fx (l0 := 0) (l1 := 0) hQ303 (Fx_f (w := 0 + 1) Fx_rf hF302 (by decide)) (by omega)) (by omega) (Cd_ap sf294 (by omega)))
      have sf317 : Cd (lg2_300 = 0 ∧ lb2_208 < 19999) (ST A298 (st2_231) (st2_251) (15) (12)) := Cd_mk (fun hC => ST_mv (Cg_fx (l0 := 0) (l1 := 0) hQ303 (Fx_f (w := 0 + 1) Fx_rf hF302 (by decide)) (by omega)) (by omega) (Cd_ap sf295 (by omega)))
      have sf318 : Cd (lg2_300 = 0 ∧ lb2_208 < 19999) (ST A298 (st2_251) (st2_277) (1) (r271)) := Cd_mk (fun hC => ST_mv (Cg_fx (l0 := 0) (l1 := 0) hQ303 (Fx_f (w := 0 + 1) Fx_rf hF302 (by decide)) (by omega)) (by omega) (Cd_ap p289 (by omega)))
      have hBo319 : Cd (lg2_300 = 0 ∧ lb2_208 < 19999) (Fx [50] (lb + 1) A A298) := Cd_mk (fun hC => Fx_f (Cd_ap hBo296 (by omega)) hF302 (by decide))
      refine jx_go (tg := 167) rfl rfl ?_
      refine jx_rt (v := none) rfl rfl rfl rfl rfl rfl ?_
      exact ⟨_, _, st2_299, lg2_300, lb2_208, rfl, rfl, hW301, hF313, hC314, (e304), (e305), ((hF302.1 77 rfl).trans ((hF280.1 77 rfl).trans ((hF254.1 77 rfl).trans ((hF234.1 77 rfl).trans (e214))))), by omega, by omega, by omega, by omega, by omega, (Cd_mk (fun hC => by have := Cd_ap p220 (by omega); omega)), by omega, (Cd_mk (fun hC => Cd_ap hBo319 (by omega))), (Cd_mk (fun hC => (gD_3 (by omega) (Cd_ap sf315 (by omega)) (Cd_ap sf316 (by omega)) (Cd_ap sf317 (by omega)) (Cd_ap sf318 (by omega)) (Cd_ap p311 (by omega)) (by omega) (by first | exact (if_pos (by omega)).symm | exact (if_neg (by omega)).symm) (by omega)))), trivial⟩
    · have _q := h270
      refine jx_ar (pc_q := 60) (st_q := [.int (i32 (7)), .ref 66]) rfl rfl rfl rfl ?_
      refine jx_go (tg := 64) rfl rfl ?_
      refine jx_ld (pc_q := 65) (l_q := L4) (st_q := [.ref 66, .int (i32 (7)), .ref 66]) rfl (jl_aloadn gL4_0) ?_
      refine jx_ld (pc_q := 66) (l_q := L4) (st_q := [.int (i32 (T0 17 (x).toNat)), .ref 66, .int (i32 (7)), .ref 66]) rfl (jl_iloadn gL4_2) ?_
      refine jx_vr (pc_q := 69) (as := [.int (i32 (T0 17 (x).toNat))]) (st := [.int (i32 (7)), .ref 66]) rfl rfl rfl rfl ⟨rfl, rfl, Nat.le_of_ble_eq_true rfl⟩ rfl rfl (c_wordOf (dd := d) (hd := by omega) (hW := hW253) (s := T0 17 (x).toNat) (nw := nw) (e_nw := show G249 81 = nw from ((hF254.1 81 rfl).trans ((hF234.1 81 rfl).trans ((hF210.1 81 rfl).trans (e_nw)))))  (h_s := ⟨(Int.le_trans (by decide : (-2147483648 : Int) ≤ -2147483648) b1.1), (Int.le_trans b1.2 (by decide : (2147483647 : Int) ≤ 2147483647))⟩)  (p_0 := (TA_fr hF265 (by decide) p_0)) (p_1 := (FA_fr (hF265.2 51 rfl) p_1)) (p_2 := (SA_fr (hF265.2 13 rfl) p_2)) (p_3 := p_3) (p_4 := by omega) (p_5 := by omega) (p_6 := by omega) (p_7 := by omega) (p_8 := (show Vs (T0 17 (x).toNat).toNat from p_13.2.2.1.2.2)) (p_9 := by omega)) (fun o V_q hq => ?_)
      obtain ⟨r320, rfl, rfl, b321, p322, -⟩ := hq
      refine .inr ⟨_, rfl, ?_⟩
      refine jx_vr (pc_q := 72) (as := [.int (i32 (7)), .int (i32 (r320))]) (st := []) rfl rfl rfl rfl ⟨rfl, rfl, Nat.le_of_ble_eq_true rfl⟩ rfl rfl (c_emit (dd := d) (hd := by omega) (hW := hW253) (fn := 7) (v := r320) (st := st2_251) (e_st := show G249 70 = st2_251 from (e256)) (lg := lg2_252) (e_lg := show G249 79 = lg2_252 from (e257))  (h_fn := ⟨(by decide), (by decide)⟩) (h_v := ⟨(Int.le_trans (by decide : (-2147483648 : Int) ≤ -2147483648) b321.1), (Int.le_trans b321.2 (by decide : (2147483647 : Int) ≤ 2147483647))⟩)  (p_0 := by omega) (p_1 := by omega)) (fun o V_q hq => ?_)
      obtain ⟨G324, A325, st2_326, lg2_327, rfl, rfl, hW328, hF329, hQ330, e331, e332, p333, p334, p335, p336, p337, p338, -⟩ := hq
      have hF340 := Fr_tr hF265 hF329 (Fr_sub (by decide)) (Fr_sub (by decide))
      have hC341 := Fx_tr hC266 hQ330 (by omega)
      have bst2_326 : (-2147483648 : Int) ≤ st2_326 ∧ st2_326 ≤ 2147483647 := e331 ▸ hW328.1 70
      have blg2_327 : (0 : Int) ≤ lg2_327 ∧ lg2_327 ≤ 1 := e332 ▸ hW328.1 79
      refine .inl ⟨rfl, ?_⟩
      have sf342 : Cd (lg2_327 = 0 ∧ lb2_208 < 19999) (gE T0 A325 F Sn nw (k) (T0 18 (x).toNat) (st) (st2_206) (lb) (lb2_208)) := Cd_mk (fun hC => gE_mv (Cg_fx (l0 := lb) (l1 := lb2_208) hQ330 (Fx_f (w := lb2_208 + 1) Fx_rf hF329 (by decide)) (by omega)) (by omega) (Cd_ap sf267 (by omega)))
      have sf343 : Cd (lg2_327 = 0 ∧ lb2_208 < 19999) (ST A325 (st2_206) (st2_231) (4) (T0 8 (T0 17 (x).toNat).toNat)) := Cd_mk (fun hC => ST_mv (Cg_fx (l0 := 0) (l1 := 0) hQ330 (Fx_f (w := 0 + 1) Fx_rf hF329 (by decide)) (by omega)) (by omega) (Cd_ap sf268 (by omega)))
      have sf344 : Cd (lg2_327 = 0 ∧ lb2_208 < 19999) (ST A325 (st2_231) (st2_251) (15) (12)) := Cd_mk (fun hC => ST_mv (Cg_fx (l0 := 0) (l1 := 0) hQ330 (Fx_f (w := 0 + 1) Fx_rf hF329 (by decide)) (by omega)) (by omega) (Cd_ap p263 (by omega)))
      have hBo345 : Cd (lg2_327 = 0 ∧ lb2_208 < 19999) (Fx [50] (lb + 1) A A325) := Cd_mk (fun hC => Fx_f (Cd_ap hBo269 (by omega)) hF329 (by decide))
      refine jx_ld (pc_q := 73) (l_q := L4) (st_q := [.ref 66]) rfl (jl_aloadn gL4_0) ?_
      refine jx_ar (pc_q := 75) (st_q := [.int (i32 (11)), .ref 66]) rfl rfl rfl rfl ?_
      refine jx_vr (pc_q := 78) (as := [.int (i32 (11))]) (st := []) rfl rfl rfl rfl ⟨rfl, rfl, Nat.le_of_ble_eq_true rfl⟩ rfl rfl (c_op (dd := d) (hd := by omega) (hW := hW328) (oo := 11) (st := st2_326) (e_st := show G324 70 = st2_326 from (e331)) (lg := lg2_327) (e_lg := show G324 79 = lg2_327 from (e332))  (h_oo := ⟨(by decide), (by decide)⟩)  (p_0 := by omega) (p_1 := by omega)) (fun o V_q hq => ?_)
      obtain ⟨G346, A347, st2_348, lg2_349, rfl, rfl, hW350, hF351, hQ352, e353, e354, p355, p356, p357, p358, p359, p360, -⟩ := hq
      have hF362 := Fr_tr hF340 hF351 (Fr_sub (by decide)) (Fr_sub (by decide))
      have hC363 := Fx_tr hC341 hQ352 (by omega)
      have bst2_348 : (-2147483648 : Int) ≤ st2_348 ∧ st2_348 ≤ 2147483647 := e353 ▸ hW350.1 70
      have blg2_349 : (0 : Int) ≤ lg2_349 ∧ lg2_349 ≤ 1 := e354 ▸ hW350.1 79
      refine .inl ⟨rfl, ?_⟩
      have sf364 : Cd (lg2_349 = 0 ∧ lb2_208 < 19999) (gE T0 A347 F Sn nw (k) (T0 18 (x).toNat) (st) (st2_206) (lb) (lb2_208)) := Cd_mk (fun hC => gE_mv (Cg_fx (l0 := lb) (l1 := lb2_208) hQ352 (Fx_f (w := lb2_208 + 1) Fx_rf hF351 (by decide)) (by omega)) (by omega) (Cd_ap sf342 (by omega)))
      have sf365 : Cd (lg2_349 = 0 ∧ lb2_208 < 19999) (ST A347 (st2_206) (st2_231) (4) (T0 8 (T0 17 (x).toNat).toNat)) := Cd_mk (fun hC => ST_mv (Cg_fx (l0 := 0) (l1 := 0) hQ352 (Fx_f (w := 0 + 1) Fx_rf hF351 (by decide)) (by omega)) (by omega) (Cd_ap sf343 (by omega)))
      have sf366 : Cd (lg2_349 = 0 ∧ lb2_208 < 19999) (ST A347 (st2_231) (st2_251) (15) (12)) := Cd_mk (fun hC => ST_mv (Cg_fx (l0 := 0) (l1 := 0) hQ352 (Fx_f (w := 0 + 1) Fx_rf hF351 (by decide)) (by omega)) (by omega) (Cd_ap sf344 (by omega)))
      have sf367 : Cd (lg2_349 = 0 ∧ lb2_208 < 19999) (ST A347 (st2_251) (st2_326) (7) (r320)) := Cd_mk (fun hC => ST_mv (Cg_fx (l0 := 0) (l1 := 0) hQ352 (Fx_f (w := 0 + 1) Fx_rf hF351 (by decide)) (by omega)) (by omega) (Cd_ap p338 (by omega)))
      have hBo368 : Cd (lg2_349 = 0 ∧ lb2_208 < 19999) (Fx [50] (lb + 1) A A347) := Cd_mk (fun hC => Fx_f (Cd_ap hBo345 (by omega)) hF351 (by decide))
      refine jx_go (tg := 167) rfl rfl ?_
      refine jx_rt (v := none) rfl rfl rfl rfl rfl rfl ?_
      exact ⟨_, _, st2_348, lg2_349, lb2_208, rfl, rfl, hW350, hF362, hC363, (e353), (e354), ((hF351.1 77 rfl).trans ((hF329.1 77 rfl).trans ((hF254.1 77 rfl).trans ((hF234.1 77 rfl).trans (e214))))), by omega, by omega, by omega, by omega, by omega, (Cd_mk (fun hC => by have := Cd_ap p220 (by omega); omega)), by omega, (Cd_mk (fun hC => Cd_ap hBo368 (by omega))), (Cd_mk (fun hC => (gD_3 (by omega) (Cd_ap sf364 (by omega)) (Cd_ap sf365 (by omega)) (Cd_ap sf366 (by omega)) (Cd_ap sf367 (by omega)) (Cd_ap p360 (by omega)) (by omega) (by first | exact (if_pos (by omega)).symm | exact (if_neg (by omega)).symm) (by omega)))), trivial⟩
