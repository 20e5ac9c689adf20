set_option maxRecDepth 20000 in
set_option maxHeartbeats 4000000 in
theorem c_genE_s {X : jX} {k : Nat} (hG : GE X k) {dd : Nat} {T0 : Nat → Nat → Int} {F Sn : Int → Int} {Vs : Nat → Prop} {sb : Int} {c0 c1 : jC} {G : Nat → Int} {A : Nat → Nat → Int} {T : jH} {e : Int} {lo hi : Int} {st lg lb nw : Int} (hd : 2 * (k + 1) + 6 ≤ dd) (hW : Wk G A) (e_st : G 70 = st) (e_lg : G 79 = lg) (e_lb : G 77 = lb) (e_nw : G 81 = nw) (h_e : (-2147483648 : Int) ≤ e ∧ e ≤ 2147483647) (p_0 : TA T0 A) (p_1 : FA F (nw) A) (p_2 : SA T0 Vs Sn A) (p_3 : VW T0 Vs (nw)) (p_4 : 0 ≤ nw) (p_5 : nw ≤ 39) (p_6 : 0 ≤ st) (p_7 : st ≤ 7000) (p_8 : 0 ≤ lb) (p_9 : lb + (hi - lo) + 7000 - st ≤ 1990000000) (p_10 : 0 ≤ lo) (p_11 : hi ≤ 6999) (p_12 : sb ≤ 202) (p_13 : wE T0 Vs sb (k + 1) (e) (lo) (hi)) (p_14 : ((k + 1 : Nat) : Int) ≤ 30) : wk X dd 350 [.ref 66, .int (i32 e)] (rV c0 c1 G A T) (fun o V_q => ∃ (G_q : Nat → Int) (A_q : Nat → Nat → Int) (st2 : Int) (lg2 : Int) (lb2 : Int), V_q = rV c0 c1 G_q A_q T ∧ o = .inl none ∧ Wk G_q A_q ∧ Fr [70, 77, 79] [44, 45, 46, 47, 50] G A G_q A_q ∧ Fx [44, 45, 46, 47] (st) A A_q ∧ G_q 70 = st2 ∧ G_q 79 = lg2 ∧ G_q 77 = lb2 ∧ (st ≤ st2) ∧ (st2 ≤ 7000) ∧ (lg ≤ lg2) ∧ (lg2 ≤ 1) ∧ (lb ≤ lb2) ∧ (Cd (lg2 = 0) (lb2 - lb ≤ st2 - st)) ∧ (lb2 - lb ≤ st2 - st + (hi - lo)) ∧ (Cd (lg2 = 0 ∧ lb2 < 19999) (Fx [50] (lb + 1) A A_q)) ∧ (Cd (lg2 = 0 ∧ lb2 < 19999) (gE T0 A_q F Sn nw (k + 1) (e) (st) (st2) (lb) (lb2))) ∧ True) := by
  obtain ⟨d, rfl⟩ : ∃ d, dd = d + 1 := ⟨dd - 1, by omega⟩
  refine wk_of (e := jm350) rfl (Nat.le_of_ble_eq_true rfl) ?_
  show wj X d jm350 (0, [(0, .ref 66), (1, .int (i32 (e)))], [], rV c0 c1 G A T) _
  have hF0 : Fr [70, 77, 79] [44, 45, 46, 47, 50] G A G A := Fr_rf
  have hC0 : Fx [44, 45, 46, 47] (st) A A := Fx_rf
  have b_st : (-2147483648 : Int) ≤ st ∧ st ≤ 2147483647 := e_st ▸ hW.1 70
  have b_lg : (0 : Int) ≤ lg ∧ lg ≤ 1 := e_lg ▸ hW.1 79
  have b_lb : (-2147483648 : Int) ≤ lb ∧ lb ≤ 2147483647 := e_lb ▸ hW.1 77
  have b_nw : (-2147483648 : Int) ≤ nw ∧ nw ≤ 2147483647 := e_nw ▸ hW.1 81
  have hWT := TA_w hW p_0
  have hBo0 : Cd (lg = 0 ∧ lb < 19999) (Fx [50] (lb + 1) A A) := Cd_mk (fun _ => Fx_rf)
  have hkd := wE_kd p_13
  refine jx_ld (pc_q := 1) (l_q := [(0, .ref 66), (1, .int (i32 (e)))]) (st_q := [.ref 66]) rfl (jl_aloadn rfl) ?_
  refine jr_get (pc_q := 4) (i := 32) (v := .ref 82) rfl rfl (by decide) rfl rfl ?_
  refine jx_ld (pc_q := 5) (l_q := [(0, .ref 66), (1, .int (i32 (e)))]) (st_q := [.int (i32 (e)), .ref 82]) rfl (jl_iloadn rfl) ?_
  have b1 : (0 : Int) ≤ T0 15 (e).toNat ∧ T0 15 (e).toNat ≤ 34 := hWT.2 15 _
  refine jr_ldv (pc_q := 6) (i := 15) (m := 7000) (z := e) (y := T0 15 (e).toNat) rfl (by decide) rfl (by decide) (by omega) (by omega) rfl (show A 15 (e).toNat = T0 15 (e).toNat from (congrFun (p_0 15 rfl) _)) ?_
  rcases (by omega : T0 15 (e).toNat = 1 ∨ T0 15 (e).toNat = 2 ∨ T0 15 (e).toNat = 3 ∨ T0 15 (e).toNat = 4 ∨ T0 15 (e).toNat = 5 ∨ T0 15 (e).toNat = 6 ∨ T0 15 (e).toNat = 7 ∨ (T0 15 (e).toNat < 1 ∨ 7 < T0 15 (e).toNat)) with h2 | h2 | h2 | h2 | h2 | h2 | h2 | h2
  · refine jx_swe (z := 1) (tg := 48) h2 rfl rfl rfl rfl ?_
    have _q : True := trivial
    refine jx_ld (pc_q := 49) (l_q := [(0, .ref 66), (1, .int (i32 (e)))]) (st_q := [.ref 66]) rfl (jl_aloadn rfl) ?_
    refine jx_ar (pc_q := 50) (st_q := [.int (i32 (4)), .ref 66]) rfl rfl rfl rfl ?_
    refine jx_ld (pc_q := 51) (l_q := [(0, .ref 66), (1, .int (i32 (e)))]) (st_q := [.ref 66, .int (i32 (4)), .ref 66]) rfl (jl_aloadn rfl) ?_
    refine jr_get (pc_q := 54) (i := 34) (v := .ref 84) rfl rfl (by decide) rfl rfl ?_
    refine jx_ld (pc_q := 55) (l_q := [(0, .ref 66), (1, .int (i32 (e)))]) (st_q := [.int (i32 (e)), .ref 84, .int (i32 (4)), .ref 66]) rfl (jl_iloadn rfl) ?_
    have b3 : (-2147483648 : Int) ≤ T0 17 (e).toNat ∧ T0 17 (e).toNat ≤ 2147483647 := hWT.2 17 _
    refine jr_ldv (pc_q := 56) (i := 17) (m := 7000) (z := e) (y := T0 17 (e).toNat) rfl (by decide) rfl (by decide) (by omega) (by omega) rfl (show A 17 (e).toNat = T0 17 (e).toNat from (congrFun (p_0 17 rfl) _)) ?_
    refine jx_vr (pc_q := 59) (as := [.int (i32 (4)), .int (i32 (T0 17 (e).toNat))]) (st := []) rfl rfl rfl rfl ⟨rfl, rfl, Nat.le_of_ble_eq_true rfl⟩ rfl rfl (c_emit (dd := d) (hd := by omega) (hW := hW) (fn := 4) (v := T0 17 (e).toNat) (st := st) (e_st := show G 70 = st from (e_st)) (lg := lg) (e_lg := show G 79 = lg from (e_lg))  (h_fn := ⟨(by decide), (by decide)⟩) (h_v := ⟨(Int.le_trans (by decide : (-2147483648 : Int) ≤ -2147483648) b3.1), (Int.le_trans b3.2 (by decide : (2147483647 : Int) ≤ 2147483647))⟩)  (p_0 := by omega) (p_1 := by omega)) (fun o V_q hq => ?_)
    obtain ⟨G4, A5, st2_6, lg2_7, rfl, rfl, hW8, hF9, hQ10, e11, e12, p13, p14, p15, p16, p17, p18, -⟩ := hq
    have hF20 := Fr_tr hF0 hF9 (Fr_sub (by decide)) (Fr_sub (by decide))
    have hC21 := Fx_tr hC0 hQ10 (by omega)
    have bst2_6 : (-2147483648 : Int) ≤ st2_6 ∧ st2_6 ≤ 2147483647 := e11 ▸ hW8.1 70
    have blg2_7 : (0 : Int) ≤ lg2_7 ∧ lg2_7 ≤ 1 := e12 ▸ hW8.1 79
    refine .inl ⟨rfl, ?_⟩
    have hBo22 : Cd (lg2_7 = 0 ∧ lb < 19999) (Fx [50] (lb + 1) A A5) := Cd_mk (fun hC => Fx_f (Cd_ap hBo0 (by omega)) hF9 (by decide))
    refine jx_go (tg := 206) rfl rfl ?_
    refine jx_rt (v := none) rfl rfl rfl rfl rfl rfl ?_
    exact ⟨_, _, st2_6, lg2_7, lb, rfl, rfl, hW8, hF20, hC21, (e11), (e12), ((hF9.1 77 rfl).trans (e_lb)), by omega, by omega, by omega, by omega, by omega, (Cd_mk (fun hC => by omega)), by omega, (Cd_mk (fun hC => Cd_ap hBo22 (by omega))), (Cd_mk (fun hC => (.inl ⟨by omega, (Cd_ap p18 (by omega))⟩))), trivial⟩
  · refine jx_swe (z := 2) (tg := 62) h2 rfl rfl rfl rfl ?_
    have hq2 := wE_i2 p_13 (by omega); have hs1 := hq2.1.1; have hs2 := hq2.1.2.1; have hkv := kVal_b hq2.2
    refine jx_ld (pc_q := 63) (l_q := [(0, .ref 66), (1, .int (i32 (e)))]) (st_q := [.ref 66]) rfl (jl_aloadn rfl) ?_
    refine jr_get (pc_q := 66) (i := 34) (v := .ref 84) rfl rfl (by decide) rfl rfl ?_
    refine jx_ld (pc_q := 67) (l_q := [(0, .ref 66), (1, .int (i32 (e)))]) (st_q := [.int (i32 (e)), .ref 84]) rfl (jl_iloadn rfl) ?_
    have b23 : (-2147483648 : Int) ≤ T0 17 (e).toNat ∧ T0 17 (e).toNat ≤ 2147483647 := hWT.2 17 _
    refine jr_ldv (pc_q := 68) (i := 17) (m := 7000) (z := e) (y := T0 17 (e).toNat) rfl (by decide) rfl (by decide) (by omega) (by omega) rfl (show A 17 (e).toNat = T0 17 (e).toNat from (congrFun (p_0 17 rfl) _)) ?_
    refine jx_ld (pc_q := 69) (l_q := jSto1 [(0, .ref 66), (1, .int (i32 (e)))] 2 (.int (i32 (T0 17 (e).toNat)))) (st_q := []) rfl rfl ?_
    obtain ⟨L24, eL24⟩ : ∃ q, q = jSto1 [(0, .ref 66), (1, .int (i32 (e)))] 2 (.int (i32 (T0 17 (e).toNat))) := ⟨_, rfl⟩
    rw [← eL24]
    have gL24_0 : jGet L24 0 = some (.ref 66) := eL24 ▸ jg_ne (by decide) (rfl : jGet [(0, .ref 66), (1, .int (i32 (e)))] 0 = some (.ref 66)) rfl
    have gL24_1 : jGet L24 1 = some (.int (i32 (e))) := eL24 ▸ jg_ne (by decide) (rfl : jGet [(0, .ref 66), (1, .int (i32 (e)))] 1 = some (.int (i32 (e)))) rfl
    have gL24_2 : jGet L24 2 = some (.int (i32 (T0 17 (e).toNat))) := eL24 ▸ jg_eq
    refine jx_ld (pc_q := 70) (l_q := L24) (st_q := [.ref 66]) rfl (jl_aloadn gL24_0) ?_
    refine jr_get (pc_q := 73) (i := 21) (v := .ref 74) rfl rfl (by decide) rfl rfl ?_
    refine jx_ld (pc_q := 74) (l_q := L24) (st_q := [.int (i32 (T0 17 (e).toNat)), .ref 74]) rfl (jl_iloadn gL24_2) ?_
    have b25 : (0 : Int) ≤ T0 7 (T0 17 (e).toNat).toNat ∧ T0 7 (T0 17 (e).toNat).toNat ≤ 14 := hWT.2 7 _
    refine jr_ldv (pc_q := 75) (i := 7) (m := 260) (z := T0 17 (e).toNat) (y := T0 7 (T0 17 (e).toNat).toNat) rfl (by decide) rfl (by decide) (by omega) (by omega) rfl (show A 7 (T0 17 (e).toNat).toNat = T0 7 (T0 17 (e).toNat).toNat from (congrFun (p_0 7 rfl) _)) ?_
    refine jx_ar (pc_q := 77) (st_q := [.int (i32 (10)), .int (i32 (T0 7 (T0 17 (e).toNat).toNat))]) rfl rfl rfl rfl ?_
    refine jx_icmp_ne (pc_q := 80) (tg := 94) rfl rfl rfl (Int.le_trans (by decide : (-2147483648 : Int) ≤ 0) b25.1) (Int.le_trans b25.2 (by decide : (14 : Int) ≤ 2147483647)) (by decide) (by decide) (fun h26 => ?_) (fun h26 => ?_)
    · have _q := h26
      refine jx_ld (pc_q := 95) (l_q := L24) (st_q := [.ref 66]) rfl (jl_aloadn gL24_0) ?_
      refine jx_ar (pc_q := 97) (st_q := [.int (i32 (7)), .ref 66]) rfl rfl rfl rfl ?_
      refine jx_ld (pc_q := 98) (l_q := L24) (st_q := [.ref 66, .int (i32 (7)), .ref 66]) rfl (jl_aloadn gL24_0) ?_
      refine jx_ld (pc_q := 99) (l_q := L24) (st_q := [.int (i32 (T0 17 (e).toNat)), .ref 66, .int (i32 (7)), .ref 66]) rfl (jl_iloadn gL24_2) ?_
      refine jx_vr (pc_q := 102) (as := [.int (i32 (T0 17 (e).toNat))]) (st := [.int (i32 (7)), .ref 66]) rfl rfl rfl rfl ⟨rfl, rfl, Nat.le_of_ble_eq_true rfl⟩ rfl rfl (c_wordOf (dd := d) (hd := by omega) (hW := hW) (s := T0 17 (e).toNat) (nw := nw) (e_nw := show G 81 = nw from (e_nw))  (h_s := ⟨(Int.le_trans (by decide : (-2147483648 : Int) ≤ -2147483648) b23.1), (Int.le_trans b23.2 (by decide : (2147483647 : Int) ≤ 2147483647))⟩)  (p_0 := p_0) (p_1 := p_1) (p_2 := p_2) (p_3 := p_3) (p_4 := by omega) (p_5 := by omega) (p_6 := by omega) (p_7 := by omega) (p_8 := (show Vs (T0 17 (e).toNat).toNat from hq2.1.2.2)) (p_9 := by omega)) (fun o V_q hq => ?_)
      obtain ⟨r27, rfl, rfl, b28, p29, -⟩ := hq
      refine .inr ⟨_, rfl, ?_⟩
      refine jx_vr (pc_q := 105) (as := [.int (i32 (7)), .int (i32 (r27))]) (st := []) rfl rfl rfl rfl ⟨rfl, rfl, Nat.le_of_ble_eq_true rfl⟩ rfl rfl (c_emit (dd := d) (hd := by omega) (hW := hW) (fn := 7) (v := r27) (st := st) (e_st := show G 70 = st from (e_st)) (lg := lg) (e_lg := show G 79 = lg from (e_lg))  (h_fn := ⟨(by decide), (by decide)⟩) (h_v := ⟨(Int.le_trans (by decide : (-2147483648 : Int) ≤ -2147483648) b28.1), (Int.le_trans b28.2 (by decide : (2147483647 : Int) ≤ 2147483647))⟩)  (p_0 := by omega) (p_1 := by omega)) (fun o V_q hq => ?_)
      obtain ⟨G31, A32, st2_33, lg2_34, rfl, rfl, hW35, hF36, hQ37, e38, e39, p40, p41, p42, p43, p44, p45, -⟩ := hq
      have hF47 := Fr_tr hF0 hF36 (Fr_sub (by decide)) (Fr_sub (by decide))
      have hC48 := Fx_tr hC0 hQ37 (by omega)
      have bst2_33 : (-2147483648 : Int) ≤ st2_33 ∧ st2_33 ≤ 2147483647 := e38 ▸ hW35.1 70
      have blg2_34 : (0 : Int) ≤ lg2_34 ∧ lg2_34 ≤ 1 := e39 ▸ hW35.1 79
      refine .inl ⟨rfl, ?_⟩
      have hBo49 : Cd (lg2_34 = 0 ∧ lb < 19999) (Fx [50] (lb + 1) A A32) := Cd_mk (fun hC => Fx_f (Cd_ap hBo0 (by omega)) hF36 (by decide))
      refine jx_ld (pc_q := 106) (l_q := L24) (st_q := [.ref 66]) rfl (jl_aloadn gL24_0) ?_
      refine jr_get (pc_q := 109) (i := 21) (v := .ref 74) rfl rfl (by decide) rfl rfl ?_
      refine jx_ld (pc_q := 110) (l_q := L24) (st_q := [.int (i32 (T0 17 (e).toNat)), .ref 74]) rfl (jl_iloadn gL24_2) ?_
      refine jr_ldv (pc_q := 111) (i := 7) (m := 260) (z := T0 17 (e).toNat) (y := T0 7 (T0 17 (e).toNat).toNat) rfl (by decide) rfl (by decide) (by omega) (by omega) rfl (show A32 7 (T0 17 (e).toNat).toNat = T0 7 (T0 17 (e).toNat).toNat from (congrFun ((hF36.2 7 rfl).trans (p_0 7 rfl)) _)) ?_
      refine jx_ar (pc_q := 113) (st_q := [.int (i32 (6)), .int (i32 (T0 7 (T0 17 (e).toNat).toNat))]) rfl rfl rfl rfl ?_
      refine jx_icmp_ne (pc_q := 116) (tg := 206) rfl rfl rfl (Int.le_trans (by decide : (-2147483648 : Int) ≤ 0) b25.1) (Int.le_trans b25.2 (by decide : (14 : Int) ≤ 2147483647)) (by decide) (by decide) (fun h50 => ?_) (fun h50 => ?_)
      · have _q := h50
        refine jx_rt (v := none) rfl rfl rfl rfl rfl rfl ?_
        exact ⟨_, _, st2_33, lg2_34, lb, rfl, rfl, hW35, hF47, hC48, (e38), (e39), ((hF36.1 77 rfl).trans (e_lb)), by omega, by omega, by omega, by omega, by omega, (Cd_mk (fun hC => by omega)), by omega, (Cd_mk (fun hC => Cd_ap hBo49 (by omega))), (Cd_mk (fun hC => (.inr (.inl ⟨by omega, .inr (.inr ⟨by omega, by omega, ST_e (Cd_ap p45 (by omega)) rfl (by omega)⟩)⟩)))), trivial⟩
      · have _q := h50
        refine jx_ld (pc_q := 117) (l_q := L24) (st_q := [.ref 66]) rfl (jl_aloadn gL24_0) ?_
        refine jx_ar (pc_q := 118) (st_q := [.int (i32 (3)), .ref 66]) rfl rfl rfl rfl ?_
        refine jx_ar (pc_q := 119) (st_q := [.int (i32 (0)), .int (i32 (3)), .ref 66]) rfl rfl rfl rfl ?_
        refine jx_vr (pc_q := 122) (as := [.int (i32 (3)), .int (i32 (0))]) (st := []) rfl rfl rfl rfl ⟨rfl, rfl, Nat.le_of_ble_eq_true rfl⟩ rfl rfl (c_emit (dd := d) (hd := by omega) (hW := hW35) (fn := 3) (v := 0) (st := st2_33) (e_st := show G31 70 = st2_33 from (e38)) (lg := lg2_34) (e_lg := show G31 79 = lg2_34 from (e39))  (h_fn := ⟨(by decide), (by decide)⟩) (h_v := ⟨(by decide), (by decide)⟩)  (p_0 := by omega) (p_1 := by omega)) (fun o V_q hq => ?_)
        obtain ⟨G51, A52, st2_53, lg2_54, rfl, rfl, hW55, hF56, hQ57, e58, e59, p60, p61, p62, p63, p64, p65, -⟩ := hq
        have hF67 := Fr_tr hF47 hF56 (Fr_sub (by decide)) (Fr_sub (by decide))
        have hC68 := Fx_tr hC48 hQ57 (by omega)
        have bst2_53 : (-2147483648 : Int) ≤ st2_53 ∧ st2_53 ≤ 2147483647 := e58 ▸ hW55.1 70
        have blg2_54 : (0 : Int) ≤ lg2_54 ∧ lg2_54 ≤ 1 := e59 ▸ hW55.1 79
        refine .inl ⟨rfl, ?_⟩
        have sf69 : Cd (lg2_54 = 0 ∧ lb < 19999) (ST A52 (st) (st2_33) (7) (r27)) := Cd_mk (fun hC => ST_mv (Cg_fx (l0 := 0) (l1 := 0) hQ57 (Fx_f (w := 0 + 1) Fx_rf hF56 (by decide)) (by omega)) (by omega) (Cd_ap p45 (by omega)))
        have hBo70 : Cd (lg2_54 = 0 ∧ lb < 19999) (Fx [50] (lb + 1) A A52) := Cd_mk (fun hC => Fx_f (Cd_ap hBo49 (by omega)) hF56 (by decide))
        refine jx_go (tg := 206) rfl rfl ?_
        refine jx_rt (v := none) rfl rfl rfl rfl rfl rfl ?_
        exact ⟨_, _, st2_53, lg2_54, lb, rfl, rfl, hW55, hF67, hC68, (e58), (e59), ((hF56.1 77 rfl).trans ((hF36.1 77 rfl).trans (e_lb))), by omega, by omega, by omega, by omega, by omega, (Cd_mk (fun hC => by omega)), by omega, (Cd_mk (fun hC => Cd_ap hBo70 (by omega))), (Cd_mk (fun hC => (.inr (.inl ⟨by omega, .inr (.inl ⟨by omega, SQ_c (ST_e (Cd_ap sf69 (by omega)) rfl (by omega)) (SQ_c (Cd_ap p65 (by omega)) SQ_n)⟩)⟩)))), trivial⟩
    · have _q := h26
      have hsn := p_2 (T0 17 (e).toNat) (by omega) hq2.1.2.2 (by omega)
      refine jx_ld (pc_q := 81) (l_q := L24) (st_q := [.ref 66]) rfl (jl_aloadn gL24_0) ?_
      refine jx_ar (pc_q := 82) (st_q := [.int (i32 (4)), .ref 66]) rfl rfl rfl rfl ?_
      refine jx_ld (pc_q := 83) (l_q := L24) (st_q := [.ref 66, .int (i32 (4)), .ref 66]) rfl (jl_aloadn gL24_0) ?_
      refine jr_get (pc_q := 86) (i := 27) (v := .ref 80) rfl rfl (by decide) rfl rfl ?_
      refine jx_ld (pc_q := 87) (l_q := L24) (st_q := [.int (i32 (T0 17 (e).toNat)), .ref 80, .int (i32 (4)), .ref 66]) rfl (jl_iloadn gL24_2) ?_
      have b71 : (-2147483648 : Int) ≤ A 13 (T0 17 (e).toNat).toNat ∧ A 13 (T0 17 (e).toNat).toNat ≤ 2147483647 := hW.2 13 _
      refine jr_ldv (pc_q := 88) (i := 13) (m := 260) (z := T0 17 (e).toNat) (y := A 13 (T0 17 (e).toNat).toNat) rfl (by decide) rfl (by decide) (by omega) (by omega) rfl (show A 13 (T0 17 (e).toNat).toNat = A 13 (T0 17 (e).toNat).toNat from rfl) ?_
      refine jx_vr (pc_q := 91) (as := [.int (i32 (4)), .int (i32 (A 13 (T0 17 (e).toNat).toNat))]) (st := []) rfl rfl rfl rfl ⟨rfl, rfl, Nat.le_of_ble_eq_true rfl⟩ rfl rfl (c_emit (dd := d) (hd := by omega) (hW := hW) (fn := 4) (v := A 13 (T0 17 (e).toNat).toNat) (st := st) (e_st := show G 70 = st from (e_st)) (lg := lg) (e_lg := show G 79 = lg from (e_lg))  (h_fn := ⟨(by decide), (by decide)⟩) (h_v := ⟨(Int.le_trans (by decide : (-2147483648 : Int) ≤ -2147483648) b71.1), (Int.le_trans b71.2 (by decide : (2147483647 : Int) ≤ 2147483647))⟩)  (p_0 := by omega) (p_1 := by omega)) (fun o V_q hq => ?_)
      obtain ⟨G72, A73, st2_74, lg2_75, rfl, rfl, hW76, hF77, hQ78, e79, e80, p81, p82, p83, p84, p85, p86, -⟩ := hq
      have hF88 := Fr_tr hF0 hF77 (Fr_sub (by decide)) (Fr_sub (by decide))
      have hC89 := Fx_tr hC0 hQ78 (by omega)
      have bst2_74 : (-2147483648 : Int) ≤ st2_74 ∧ st2_74 ≤ 2147483647 := e79 ▸ hW76.1 70
      have blg2_75 : (0 : Int) ≤ lg2_75 ∧ lg2_75 ≤ 1 := e80 ▸ hW76.1 79
      refine .inl ⟨rfl, ?_⟩
      have hBo90 : Cd (lg2_75 = 0 ∧ lb < 19999) (Fx [50] (lb + 1) A A73) := Cd_mk (fun hC => Fx_f (Cd_ap hBo0 (by omega)) hF77 (by decide))
      refine jx_go (tg := 105) rfl rfl ?_
      refine jx_ld (pc_q := 106) (l_q := L24) (st_q := [.ref 66]) rfl (jl_aloadn gL24_0) ?_
      refine jr_get (pc_q := 109) (i := 21) (v := .ref 74) rfl rfl (by decide) rfl rfl ?_
      refine jx_ld (pc_q := 110) (l_q := L24) (st_q := [.int (i32 (T0 17 (e).toNat)), .ref 74]) rfl (jl_iloadn gL24_2) ?_
      refine jr_ldv (pc_q := 111) (i := 7) (m := 260) (z := T0 17 (e).toNat) (y := T0 7 (T0 17 (e).toNat).toNat) rfl (by decide) rfl (by decide) (by omega) (by omega) rfl (show A73 7 (T0 17 (e).toNat).toNat = T0 7 (T0 17 (e).toNat).toNat from (congrFun ((hF77.2 7 rfl).trans (p_0 7 rfl)) _)) ?_
      refine jx_ar (pc_q := 113) (st_q := [.int (i32 (6)), .int (i32 (T0 7 (T0 17 (e).toNat).toNat))]) rfl rfl rfl rfl ?_
      refine jx_icmp_ne (pc_q := 116) (tg := 206) rfl rfl rfl (Int.le_trans (by decide : (-2147483648 : Int) ≤ 0) b25.1) (Int.le_trans b25.2 (by decide : (14 : Int) ≤ 2147483647)) (by decide) (by decide) (fun h91 => ?_) (fun h91 => ?_)
      · have _q := h91
        refine jx_rt (v := none) rfl rfl rfl rfl rfl rfl ?_
        exact ⟨_, _, st2_74, lg2_75, lb, rfl, rfl, hW76, hF88, hC89, (e79), (e80), ((hF77.1 77 rfl).trans (e_lb)), by omega, by omega, by omega, by omega, by omega, (Cd_mk (fun hC => by omega)), by omega, (Cd_mk (fun hC => Cd_ap hBo90 (by omega))), (Cd_mk (fun hC => (.inr (.inl ⟨by omega, .inl ⟨by omega, ST_e (Cd_ap p86 (by omega)) rfl (by omega)⟩⟩)))), trivial⟩
      · have _q := h91
        exfalso
        omega
  · refine jx_swe (z := 3) (tg := 125) h2 rfl rfl rfl rfl ?_
    have hpx := pX_wE p_13 (by omega)
    refine jx_ld (pc_q := 126) (l_q := [(0, .ref 66), (1, .int (i32 (e)))]) (st_q := [.ref 66]) rfl (jl_aloadn rfl) ?_
    refine jx_ld (pc_q := 127) (l_q := [(0, .ref 66), (1, .int (i32 (e)))]) (st_q := [.int (i32 (e)), .ref 66]) rfl (jl_iloadn rfl) ?_
    refine jx_vr (pc_q := 130) (as := [.int (i32 (e))]) (st := []) rfl rfl rfl rfl ⟨rfl, rfl, Nat.le_of_ble_eq_true rfl⟩ rfl rfl (c_genAddress (dd := d) (hG := hG) (hd := by omega) (hW := hW) (x := e) (lo := lo) (hi := hi) (st := st) (e_st := show G 70 = st from (e_st)) (lg := lg) (e_lg := show G 79 = lg from (e_lg)) (lb := lb) (e_lb := show G 77 = lb from (e_lb)) (nw := nw) (e_nw := show G 81 = nw from (e_nw))  (h_x := ⟨(Int.le_trans (by decide : (-2147483648 : Int) ≤ -2147483648) h_e.1), (Int.le_trans h_e.2 (by decide : (2147483647 : Int) ≤ 2147483647))⟩)  (p_0 := p_0) (p_1 := p_1) (p_2 := p_2) (p_3 := p_3) (p_4 := by omega) (p_5 := by omega) (p_6 := by omega) (p_7 := by omega) (p_8 := by omega) (p_9 := by omega) (p_10 := by omega) (p_11 := by omega) (p_12 := by omega) (p_13 := hpx) (p_14 := by omega)) (fun o V_q hq => ?_)
    obtain ⟨G92, A93, st2_94, lg2_95, lb2_96, rfl, rfl, hW97, hF98, hQ99, e100, e101, e102, p103, p104, p105, p106, p107, p108, p109, p110, p111, -⟩ := hq
    have hF113 := Fr_tr hF0 hF98 (Fr_sub (by decide)) (Fr_sub (by decide))
    have hC114 := Fx_tr hC0 hQ99 (by omega)
    have bst2_94 : (-2147483648 : Int) ≤ st2_94 ∧ st2_94 ≤ 2147483647 := e100 ▸ hW97.1 70
    have blg2_95 : (0 : Int) ≤ lg2_95 ∧ lg2_95 ≤ 1 := e101 ▸ hW97.1 79
    have blb2_96 : (-2147483648 : Int) ≤ lb2_96 ∧ lb2_96 ≤ 2147483647 := e102 ▸ hW97.1 77
    refine .inl ⟨rfl, ?_⟩
    have hBo115 : Cd (lg2_95 = 0 ∧ lb2_96 < 19999) (Fx [50] (lb + 1) A A93) := Cd_mk (fun hC => Fx_tr (Cd_ap hBo0 (by omega)) (Cd_ap p110 (by omega)) (by omega))
    refine jx_ld (pc_q := 131) (l_q := [(0, .ref 66), (1, .int (i32 (e)))]) (st_q := [.ref 66]) rfl (jl_aloadn rfl) ?_
    refine jx_ar (pc_q := 132) (st_q := [.int (i32 (3)), .ref 66]) rfl rfl rfl rfl ?_
    refine jx_ar (pc_q := 133) (st_q := [.int (i32 (0)), .int (i32 (3)), .ref 66]) rfl rfl rfl rfl ?_
    refine jx_vr (pc_q := 136) (as := [.int (i32 (3)), .int (i32 (0))]) (st := []) rfl rfl rfl rfl ⟨rfl, rfl, Nat.le_of_ble_eq_true rfl⟩ rfl rfl (c_emit (dd := d) (hd := by omega) (hW := hW97) (fn := 3) (v := 0) (st := st2_94) (e_st := show G92 70 = st2_94 from (e100)) (lg := lg2_95) (e_lg := show G92 79 = lg2_95 from (e101))  (h_fn := ⟨(by decide), (by decide)⟩) (h_v := ⟨(by decide), (by decide)⟩)  (p_0 := by omega) (p_1 := by omega)) (fun o V_q hq => ?_)
    obtain ⟨G116, A117, st2_118, lg2_119, rfl, rfl, hW120, hF121, hQ122, e123, e124, p125, p126, p127, p128, p129, p130, -⟩ := hq
    have hF132 := Fr_tr hF113 hF121 (Fr_sub (by decide)) (Fr_sub (by decide))
    have hC133 := Fx_tr hC114 hQ122 (by omega)
    have bst2_118 : (-2147483648 : Int) ≤ st2_118 ∧ st2_118 ≤ 2147483647 := e123 ▸ hW120.1 70
    have blg2_119 : (0 : Int) ≤ lg2_119 ∧ lg2_119 ≤ 1 := e124 ▸ hW120.1 79
    refine .inl ⟨rfl, ?_⟩
    have sf134 : Cd (lg2_119 = 0 ∧ lb2_96 < 19999) (gD T0 A117 F Sn nw (k) (e) (st) (st2_94) (lb) (lb2_96)) := Cd_mk (fun hC => gD_mv (Cg_fx (l0 := lb) (l1 := lb2_96) hQ122 (Fx_f (w := lb2_96 + 1) Fx_rf hF121 (by decide)) (by omega)) (by omega) (Cd_ap p111 (by omega)))
    have hBo135 : Cd (lg2_119 = 0 ∧ lb2_96 < 19999) (Fx [50] (lb + 1) A A117) := Cd_mk (fun hC => Fx_f (Cd_ap hBo115 (by omega)) hF121 (by decide))
    refine jx_go (tg := 206) rfl rfl ?_
    refine jx_rt (v := none) rfl rfl rfl rfl rfl rfl ?_
    exact ⟨_, _, st2_118, lg2_119, lb2_96, rfl, rfl, hW120, hF132, hC133, (e123), (e124), ((hF121.1 77 rfl).trans (e102)), by omega, by omega, by omega, by omega, by omega, (Cd_mk (fun hC => by have := Cd_ap p108 (by omega); omega)), by omega, (Cd_mk (fun hC => Cd_ap hBo135 (by omega))), (Cd_mk (fun hC => (.inr (.inr (.inl ⟨by omega, st2_94, (Cd_ap sf134 (by omega)), (Cd_ap p130 (by omega))⟩))))), trivial⟩
  · refine jx_swe (z := 4) (tg := 201) h2 rfl rfl rfl rfl ?_
    have hkd4 : T0 15 (e).toNat = 4 := by omega
    refine jx_ld (pc_q := 202) (l_q := [(0, .ref 66), (1, .int (i32 (e)))]) (st_q := [.ref 66]) rfl (jl_aloadn rfl) ?_
    refine jx_ld (pc_q := 203) (l_q := [(0, .ref 66), (1, .int (i32 (e)))]) (st_q := [.int (i32 (e)), .ref 66]) rfl (jl_iloadn rfl) ?_
    refine jx_vr (pc_q := 206) (as := [.int (i32 (e))]) (st := []) rfl rfl rfl rfl ⟨rfl, rfl, Nat.le_of_ble_eq_true rfl⟩ rfl rfl (c_genTwo (dd := d) (hG := hG) (hd := by omega) (hW := hW) (e := e) (lo := lo) (hi := hi) (st := st) (e_st := show G 70 = st from (e_st)) (lg := lg) (e_lg := show G 79 = lg from (e_lg)) (lb := lb) (e_lb := show G 77 = lb from (e_lb)) (nw := nw) (e_nw := show G 81 = nw from (e_nw))  (h_e := ⟨(Int.le_trans (by decide : (-2147483648 : Int) ≤ -2147483648) h_e.1), (Int.le_trans h_e.2 (by decide : (2147483647 : Int) ≤ 2147483647))⟩)  (p_0 := p_0) (p_1 := p_1) (p_2 := p_2) (p_3 := p_3) (p_4 := by omega) (p_5 := by omega) (p_6 := by omega) (p_7 := by omega) (p_8 := by omega) (p_9 := by omega) (p_10 := by omega) (p_11 := by omega) (p_12 := by omega) (p_13 := p_13) (p_14 := by omega) (p_15 := by omega)) (fun o V_q hq => ?_)
    obtain ⟨G136, A137, st2_138, lg2_139, lb2_140, rfl, rfl, hW141, hF142, hQ143, e144, e145, e146, p147, p148, p149, p150, p151, p152, p153, p154, p155, -⟩ := hq
    have hF157 := Fr_tr hF0 hF142 (Fr_sub (by decide)) (Fr_sub (by decide))
    have hC158 := Fx_tr hC0 hQ143 (by omega)
    have bst2_138 : (-2147483648 : Int) ≤ st2_138 ∧ st2_138 ≤ 2147483647 := e144 ▸ hW141.1 70
    have blg2_139 : (0 : Int) ≤ lg2_139 ∧ lg2_139 ≤ 1 := e145 ▸ hW141.1 79
    have blb2_140 : (-2147483648 : Int) ≤ lb2_140 ∧ lb2_140 ≤ 2147483647 := e146 ▸ hW141.1 77
    refine .inl ⟨rfl, ?_⟩
    have hBo159 : Cd (lg2_139 = 0 ∧ lb2_140 < 19999) (Fx [50] (lb + 1) A A137) := Cd_mk (fun hC => Fx_tr (Cd_ap hBo0 (by omega)) (Cd_ap p154 (by omega)) (by omega))
    refine jx_rt (v := none) rfl rfl rfl rfl rfl rfl ?_
    exact ⟨_, _, st2_138, lg2_139, lb2_140, rfl, rfl, hW141, hF157, hC158, (e144), (e145), (e146), by omega, by omega, by omega, by omega, by omega, (Cd_mk (fun hC => by have := Cd_ap p152 (by omega); omega)), by omega, (Cd_mk (fun hC => Cd_ap hBo159 (by omega))), (Cd_mk (fun hC => (Cd_ap p155 (by omega)))), trivial⟩
  · refine jx_swe (z := 5) (tg := 139) h2 rfl rfl rfl rfl ?_
    have hq5 := wE_i5 p_13 (by omega)
    refine jx_ld (pc_q := 140) (l_q := [(0, .ref 66), (1, .int (i32 (e)))]) (st_q := [.ref 66]) rfl (jl_aloadn rfl) ?_
    refine jx_ld (pc_q := 141) (l_q := [(0, .ref 66), (1, .int (i32 (e)))]) (st_q := [.ref 66, .ref 66]) rfl (jl_aloadn rfl) ?_
    refine jr_get (pc_q := 144) (i := 34) (v := .ref 84) rfl rfl (by decide) rfl rfl ?_
    refine jx_ld (pc_q := 145) (l_q := [(0, .ref 66), (1, .int (i32 (e)))]) (st_q := [.int (i32 (e)), .ref 84, .ref 66]) rfl (jl_iloadn rfl) ?_
    have b160 : (-2147483648 : Int) ≤ T0 17 (e).toNat ∧ T0 17 (e).toNat ≤ 2147483647 := hWT.2 17 _
    refine jr_ldv (pc_q := 146) (i := 17) (m := 7000) (z := e) (y := T0 17 (e).toNat) rfl (by decide) rfl (by decide) (by omega) (by omega) rfl (show A 17 (e).toNat = T0 17 (e).toNat from (congrFun (p_0 17 rfl) _)) ?_
    refine jx_vr (pc_q := 149) (as := [.int (i32 (T0 17 (e).toNat))]) (st := []) rfl rfl rfl rfl ⟨rfl, rfl, Nat.le_of_ble_eq_true rfl⟩ rfl rfl (hG (dd := d) (hd := by omega) (hW := hW) (e := T0 17 (e).toNat) (lo := lo) (hi := e) (st := st) (e_st := show G 70 = st from (e_st)) (lg := lg) (e_lg := show G 79 = lg from (e_lg)) (lb := lb) (e_lb := show G 77 = lb from (e_lb)) (nw := nw) (e_nw := show G 81 = nw from (e_nw))  (h_e := ⟨(Int.le_trans (by decide : (-2147483648 : Int) ≤ -2147483648) b160.1), (Int.le_trans b160.2 (by decide : (2147483647 : Int) ≤ 2147483647))⟩)  (p_0 := p_0) (p_1 := p_1) (p_2 := p_2) (p_3 := p_3) (p_4 := by omega) (p_5 := by omega) (p_6 := by omega) (p_7 := by omega) (p_8 := by omega) (p_9 := by omega) (p_10 := by omega) (p_11 := by omega) (p_12 := by omega) (p_13 := hq5) (p_14 := by omega)) (fun o V_q hq => ?_)
    obtain ⟨G161, A162, st2_163, lg2_164, lb2_165, rfl, rfl, hW166, hF167, hQ168, e169, e170, e171, p172, p173, p174, p175, p176, p177, p178, p179, p180, -⟩ := hq
    have hF182 := Fr_tr hF0 hF167 (Fr_sub (by decide)) (Fr_sub (by decide))
    have hC183 := Fx_tr hC0 hQ168 (by omega)
    have bst2_163 : (-2147483648 : Int) ≤ st2_163 ∧ st2_163 ≤ 2147483647 := e169 ▸ hW166.1 70
    have blg2_164 : (0 : Int) ≤ lg2_164 ∧ lg2_164 ≤ 1 := e170 ▸ hW166.1 79
    have blb2_165 : (-2147483648 : Int) ≤ lb2_165 ∧ lb2_165 ≤ 2147483647 := e171 ▸ hW166.1 77
    refine .inl ⟨rfl, ?_⟩
    have hBo184 : Cd (lg2_164 = 0 ∧ lb2_165 < 19999) (Fx [50] (lb + 1) A A162) := Cd_mk (fun hC => Fx_tr (Cd_ap hBo0 (by omega)) (Cd_ap p179 (by omega)) (by omega))
    refine jx_ld (pc_q := 150) (l_q := [(0, .ref 66), (1, .int (i32 (e)))]) (st_q := [.ref 66]) rfl (jl_aloadn rfl) ?_
    refine jx_ar (pc_q := 151) (st_q := [.int (i32 (4)), .ref 66]) rfl rfl rfl rfl ?_
    refine jx_ar (pc_q := 152) (st_q := [.int (i32 (0)), .int (i32 (4)), .ref 66]) rfl rfl rfl rfl ?_
    refine jx_vr (pc_q := 155) (as := [.int (i32 (4)), .int (i32 (0))]) (st := []) rfl rfl rfl rfl ⟨rfl, rfl, Nat.le_of_ble_eq_true rfl⟩ rfl rfl (c_emit (dd := d) (hd := by omega) (hW := hW166) (fn := 4) (v := 0) (st := st2_163) (e_st := show G161 70 = st2_163 from (e169)) (lg := lg2_164) (e_lg := show G161 79 = lg2_164 from (e170))  (h_fn := ⟨(by decide), (by decide)⟩) (h_v := ⟨(by decide), (by decide)⟩)  (p_0 := by omega) (p_1 := by omega)) (fun o V_q hq => ?_)
    obtain ⟨G185, A186, st2_187, lg2_188, rfl, rfl, hW189, hF190, hQ191, e192, e193, p194, p195, p196, p197, p198, p199, -⟩ := hq
    have hF201 := Fr_tr hF182 hF190 (Fr_sub (by decide)) (Fr_sub (by decide))
    have hC202 := Fx_tr hC183 hQ191 (by omega)
    have bst2_187 : (-2147483648 : Int) ≤ st2_187 ∧ st2_187 ≤ 2147483647 := e192 ▸ hW189.1 70
    have blg2_188 : (0 : Int) ≤ lg2_188 ∧ lg2_188 ≤ 1 := e193 ▸ hW189.1 79
    refine .inl ⟨rfl, ?_⟩
    have sf203 : Cd (lg2_188 = 0 ∧ lb2_165 < 19999) (gE T0 A186 F Sn nw (k) (T0 17 (e).toNat) (st) (st2_163) (lb) (lb2_165)) := Cd_mk (fun hC => gE_mv (Cg_fx (l0 := lb) (l1 := lb2_165) hQ191 (Fx_f (w := lb2_165 + 1) Fx_rf hF190 (by decide)) (by omega)) (by omega) (Cd_ap p180 (by omega)))
    have hBo204 : Cd (lg2_188 = 0 ∧ lb2_165 < 19999) (Fx [50] (lb + 1) A A186) := Cd_mk (fun hC => Fx_f (Cd_ap hBo184 (by omega)) hF190 (by decide))
    refine jx_ld (pc_q := 156) (l_q := [(0, .ref 66), (1, .int (i32 (e)))]) (st_q := [.ref 66]) rfl (jl_aloadn rfl) ?_
    refine jx_ar (pc_q := 157) (st_q := [.int (i32 (0)), .ref 66]) rfl rfl rfl rfl ?_
    refine jx_vr (pc_q := 160) (as := [.int (i32 (0))]) (st := []) rfl rfl rfl rfl ⟨rfl, rfl, Nat.le_of_ble_eq_true rfl⟩ rfl rfl (c_op (dd := d) (hd := by omega) (hW := hW189) (oo := 0) (st := st2_187) (e_st := show G185 70 = st2_187 from (e192)) (lg := lg2_188) (e_lg := show G185 79 = lg2_188 from (e193))  (h_oo := ⟨(by decide), (by decide)⟩)  (p_0 := by omega) (p_1 := by omega)) (fun o V_q hq => ?_)
    obtain ⟨G205, A206, st2_207, lg2_208, rfl, rfl, hW209, hF210, hQ211, e212, e213, p214, p215, p216, p217, p218, p219, -⟩ := hq
    have hF221 := Fr_tr hF201 hF210 (Fr_sub (by decide)) (Fr_sub (by decide))
    have hC222 := Fx_tr hC202 hQ211 (by omega)
    have bst2_207 : (-2147483648 : Int) ≤ st2_207 ∧ st2_207 ≤ 2147483647 := e212 ▸ hW209.1 70
    have blg2_208 : (0 : Int) ≤ lg2_208 ∧ lg2_208 ≤ 1 := e213 ▸ hW209.1 79
    refine .inl ⟨rfl, ?_⟩
    have sf223 : Cd (lg2_208 = 0 ∧ lb2_165 < 19999) (gE T0 A206 F Sn nw (k) (T0 17 (e).toNat) (st) (st2_163) (lb) (lb2_165)) := Cd_mk (fun hC => gE_mv (Cg_fx (l0 := lb) (l1 := lb2_165) hQ211 (Fx_f (w := lb2_165 + 1) Fx_rf hF210 (by decide)) (by omega)) (by omega) (Cd_ap sf203 (by omega)))
    have sf224 : Cd (lg2_208 = 0 ∧ lb2_165 < 19999) (ST A206 (st2_163) (st2_187) (4) (0)) := Cd_mk (fun hC => ST_mv (Cg_fx (l0 := 0) (l1 := 0) hQ211 (Fx_f (w := 0 + 1) Fx_rf hF210 (by decide)) (by omega)) (by omega) (Cd_ap p199 (by omega)))
    have hBo225 : Cd (lg2_208 = 0 ∧ lb2_165 < 19999) (Fx [50] (lb + 1) A A206) := Cd_mk (fun hC => Fx_f (Cd_ap hBo204 (by omega)) hF210 (by decide))
    refine jx_ld (pc_q := 161) (l_q := [(0, .ref 66), (1, .int (i32 (e)))]) (st_q := [.ref 66]) rfl (jl_aloadn rfl) ?_
    refine jx_ar (pc_q := 162) (st_q := [.int (i32 (2)), .ref 66]) rfl rfl rfl rfl ?_
    refine jx_vr (pc_q := 165) (as := [.int (i32 (2))]) (st := []) rfl rfl rfl rfl ⟨rfl, rfl, Nat.le_of_ble_eq_true rfl⟩ rfl rfl (c_op (dd := d) (hd := by omega) (hW := hW209) (oo := 2) (st := st2_207) (e_st := show G205 70 = st2_207 from (e212)) (lg := lg2_208) (e_lg := show G205 79 = lg2_208 from (e213))  (h_oo := ⟨(by decide), (by decide)⟩)  (p_0 := by omega) (p_1 := by omega)) (fun o V_q hq => ?_)
    obtain ⟨G226, A227, st2_228, lg2_229, rfl, rfl, hW230, hF231, hQ232, e233, e234, p235, p236, p237, p238, p239, p240, -⟩ := hq
    have hF242 := Fr_tr hF221 hF231 (Fr_sub (by decide)) (Fr_sub (by decide))
    have hC243 := Fx_tr hC222 hQ232 (by omega)
    have bst2_228 : (-2147483648 : Int) ≤ st2_228 ∧ st2_228 ≤ 2147483647 := e233 ▸ hW230.1 70
    have blg2_229 : (0 : Int) ≤ lg2_229 ∧ lg2_229 ≤ 1 := e234 ▸ hW230.1 79
    refine .inl ⟨rfl, ?_⟩
    have sf244 : Cd (lg2_229 = 0 ∧ lb2_165 < 19999) (gE T0 A227 F Sn nw (k) (T0 17 (e).toNat) (st) (st2_163) (lb) (lb2_165)) := Cd_mk (fun hC => gE_mv (Cg_fx (l0 := lb) (l1 := lb2_165) hQ232 (Fx_f (w := lb2_165 + 1) Fx_rf hF231 (by decide)) (by omega)) (by omega) (Cd_ap sf223 (by omega)))
    have sf245 : Cd (lg2_229 = 0 ∧ lb2_165 < 19999) (ST A227 (st2_163) (st2_187) (4) (0)) := Cd_mk (fun hC => ST_mv (Cg_fx (l0 := 0) (l1 := 0) hQ232 (Fx_f (w := 0 + 1) Fx_rf hF231 (by decide)) (by omega)) (by omega) (Cd_ap sf224 (by omega)))
    have sf246 : Cd (lg2_229 = 0 ∧ lb2_165 < 19999) (ST A227 (st2_187) (st2_207) (15) (0)) := Cd_mk (fun hC => ST_mv (Cg_fx (l0 := 0) (l1 := 0) hQ232 (Fx_f (w := 0 + 1) Fx_rf hF231 (by decide)) (by omega)) (by omega) (Cd_ap p219 (by omega)))
    have hBo247 : Cd (lg2_229 = 0 ∧ lb2_165 < 19999) (Fx [50] (lb + 1) A A227) := Cd_mk (fun hC => Fx_f (Cd_ap hBo225 (by omega)) hF231 (by decide))
    refine jx_go (tg := 206) rfl rfl ?_
    refine jx_rt (v := none) rfl rfl rfl rfl rfl rfl ?_
    exact ⟨_, _, st2_228, lg2_229, lb2_165, rfl, rfl, hW230, hF242, hC243, (e233), (e234), ((hF231.1 77 rfl).trans ((hF210.1 77 rfl).trans ((hF190.1 77 rfl).trans (e171)))), by omega, by omega, by omega, by omega, by omega, (Cd_mk (fun hC => by have := Cd_ap p177 (by omega); omega)), by omega, (Cd_mk (fun hC => Cd_ap hBo247 (by omega))), (Cd_mk (fun hC => (.inr (.inr (.inr (.inl ⟨by omega, st2_163, (Cd_ap sf244 (by omega)), SQ_c (Cd_ap sf245 (by omega)) (SQ_c (Cd_ap sf246 (by omega)) (SQ_c (Cd_ap p240 (by omega)) SQ_n))⟩)))))), trivial⟩
  · refine jx_swe (z := 6) (tg := 168) h2 rfl rfl rfl rfl ?_
    have hq5 := wE_i5 p_13 (by omega)
    refine jx_ld (pc_q := 169) (l_q := [(0, .ref 66), (1, .int (i32 (e)))]) (st_q := [.ref 66]) rfl (jl_aloadn rfl) ?_
    refine jx_ld (pc_q := 170) (l_q := [(0, .ref 66), (1, .int (i32 (e)))]) (st_q := [.ref 66, .ref 66]) rfl (jl_aloadn rfl) ?_
    refine jr_get (pc_q := 173) (i := 34) (v := .ref 84) rfl rfl (by decide) rfl rfl ?_
    refine jx_ld (pc_q := 174) (l_q := [(0, .ref 66), (1, .int (i32 (e)))]) (st_q := [.int (i32 (e)), .ref 84, .ref 66]) rfl (jl_iloadn rfl) ?_
    have b248 : (-2147483648 : Int) ≤ T0 17 (e).toNat ∧ T0 17 (e).toNat ≤ 2147483647 := hWT.2 17 _
    refine jr_ldv (pc_q := 175) (i := 17) (m := 7000) (z := e) (y := T0 17 (e).toNat) rfl (by decide) rfl (by decide) (by omega) (by omega) rfl (show A 17 (e).toNat = T0 17 (e).toNat from (congrFun (p_0 17 rfl) _)) ?_
    refine jx_vr (pc_q := 178) (as := [.int (i32 (T0 17 (e).toNat))]) (st := []) rfl rfl rfl rfl ⟨rfl, rfl, Nat.le_of_ble_eq_true rfl⟩ rfl rfl (hG (dd := d) (hd := by omega) (hW := hW) (e := T0 17 (e).toNat) (lo := lo) (hi := e) (st := st) (e_st := show G 70 = st from (e_st)) (lg := lg) (e_lg := show G 79 = lg from (e_lg)) (lb := lb) (e_lb := show G 77 = lb from (e_lb)) (nw := nw) (e_nw := show G 81 = nw from (e_nw))  (h_e := ⟨(Int.le_trans (by decide : (-2147483648 : Int) ≤ -2147483648) b248.1), (Int.le_trans b248.2 (by decide : (2147483647 : Int) ≤ 2147483647))⟩)  (p_0 := p_0) (p_1 := p_1) (p_2 := p_2) (p_3 := p_3) (p_4 := by omega) (p_5 := by omega) (p_6 := by omega) (p_7 := by omega) (p_8 := by omega) (p_9 := by omega) (p_10 := by omega) (p_11 := by omega) (p_12 := by omega) (p_13 := hq5) (p_14 := by omega)) (fun o V_q hq => ?_)
    obtain ⟨G249, A250, st2_251, lg2_252, lb2_253, rfl, rfl, hW254, hF255, hQ256, e257, e258, e259, p260, p261, p262, p263, p264, p265, p266, p267, p268, -⟩ := hq
    have hF270 := Fr_tr hF0 hF255 (Fr_sub (by decide)) (Fr_sub (by decide))
    have hC271 := Fx_tr hC0 hQ256 (by omega)
    have bst2_251 : (-2147483648 : Int) ≤ st2_251 ∧ st2_251 ≤ 2147483647 := e257 ▸ hW254.1 70
    have blg2_252 : (0 : Int) ≤ lg2_252 ∧ lg2_252 ≤ 1 := e258 ▸ hW254.1 79
    have blb2_253 : (-2147483648 : Int) ≤ lb2_253 ∧ lb2_253 ≤ 2147483647 := e259 ▸ hW254.1 77
    refine .inl ⟨rfl, ?_⟩
    have hBo272 : Cd (lg2_252 = 0 ∧ lb2_253 < 19999) (Fx [50] (lb + 1) A A250) := Cd_mk (fun hC => Fx_tr (Cd_ap hBo0 (by omega)) (Cd_ap p267 (by omega)) (by omega))
    refine jx_ld (pc_q := 179) (l_q := [(0, .ref 66), (1, .int (i32 (e)))]) (st_q := [.ref 66]) rfl (jl_aloadn rfl) ?_
    refine jx_ar (pc_q := 181) (st_q := [.int (i32 (12)), .ref 66]) rfl rfl rfl rfl ?_
    refine jx_ar (pc_q := 182) (st_q := [.int (i32 (0)), .int (i32 (12)), .ref 66]) rfl rfl rfl rfl ?_
    refine jx_vr (pc_q := 185) (as := [.int (i32 (12)), .int (i32 (0))]) (st := []) rfl rfl rfl rfl ⟨rfl, rfl, Nat.le_of_ble_eq_true rfl⟩ rfl rfl (c_emit (dd := d) (hd := by omega) (hW := hW254) (fn := 12) (v := 0) (st := st2_251) (e_st := show G249 70 = st2_251 from (e257)) (lg := lg2_252) (e_lg := show G249 79 = lg2_252 from (e258))  (h_fn := ⟨(by decide), (by decide)⟩) (h_v := ⟨(by decide), (by decide)⟩)  (p_0 := by omega) (p_1 := by omega)) (fun o V_q hq => ?_)
    obtain ⟨G273, A274, st2_275, lg2_276, rfl, rfl, hW277, hF278, hQ279, e280, e281, p282, p283, p284, p285, p286, p287, -⟩ := hq
    have hF289 := Fr_tr hF270 hF278 (Fr_sub (by decide)) (Fr_sub (by decide))
    have hC290 := Fx_tr hC271 hQ279 (by omega)
    have bst2_275 : (-2147483648 : Int) ≤ st2_275 ∧ st2_275 ≤ 2147483647 := e280 ▸ hW277.1 70
    have blg2_276 : (0 : Int) ≤ lg2_276 ∧ lg2_276 ≤ 1 := e281 ▸ hW277.1 79
    refine .inl ⟨rfl, ?_⟩
    have sf291 : Cd (lg2_276 = 0 ∧ lb2_253 < 19999) (gE T0 A274 F Sn nw (k) (T0 17 (e).toNat) (st) (st2_251) (lb) (lb2_253)) := Cd_mk (fun hC => gE_mv (Cg_fx (l0 := lb) (l1 := lb2_253) hQ279 (Fx_f (w := lb2_253 + 1) Fx_rf hF278 (by decide)) (by omega)) (by omega) (Cd_ap p268 (by omega)))
    have hBo292 : Cd (lg2_276 = 0 ∧ lb2_253 < 19999) (Fx [50] (lb + 1) A A274) := Cd_mk (fun hC => Fx_f (Cd_ap hBo272 (by omega)) hF278 (by decide))
    refine jx_go (tg := 206) rfl rfl ?_
    refine jx_rt (v := none) rfl rfl rfl rfl rfl rfl ?_
    exact ⟨_, _, st2_275, lg2_276, lb2_253, rfl, rfl, hW277, hF289, hC290, (e280), (e281), ((hF278.1 77 rfl).trans (e259)), by omega, by omega, by omega, by omega, by omega, (Cd_mk (fun hC => by have := Cd_ap p265 (by omega); omega)), by omega, (Cd_mk (fun hC => Cd_ap hBo292 (by omega))), (Cd_mk (fun hC => (.inr (.inr (.inr (.inr (.inl ⟨by omega, st2_251, (Cd_ap sf291 (by omega)), (Cd_ap p287 (by omega))⟩))))))), trivial⟩
  · refine jx_swe (z := 7) (tg := 188) h2 rfl rfl rfl rfl ?_
    have hq5 := wE_i5 p_13 (by omega)
    refine jx_ld (pc_q := 189) (l_q := [(0, .ref 66), (1, .int (i32 (e)))]) (st_q := [.ref 66]) rfl (jl_aloadn rfl) ?_
    refine jx_ld (pc_q := 190) (l_q := [(0, .ref 66), (1, .int (i32 (e)))]) (st_q := [.ref 66, .ref 66]) rfl (jl_aloadn rfl) ?_
    refine jr_get (pc_q := 193) (i := 34) (v := .ref 84) rfl rfl (by decide) rfl rfl ?_
    refine jx_ld (pc_q := 194) (l_q := [(0, .ref 66), (1, .int (i32 (e)))]) (st_q := [.int (i32 (e)), .ref 84, .ref 66]) rfl (jl_iloadn rfl) ?_
    have b293 : (-2147483648 : Int) ≤ T0 17 (e).toNat ∧ T0 17 (e).toNat ≤ 2147483647 := hWT.2 17 _
    refine jr_ldv (pc_q := 195) (i := 17) (m := 7000) (z := e) (y := T0 17 (e).toNat) rfl (by decide) rfl (by decide) (by omega) (by omega) rfl (show A 17 (e).toNat = T0 17 (e).toNat from (congrFun (p_0 17 rfl) _)) ?_
    refine jx_vr (pc_q := 198) (as := [.int (i32 (T0 17 (e).toNat))]) (st := []) rfl rfl rfl rfl ⟨rfl, rfl, Nat.le_of_ble_eq_true rfl⟩ rfl rfl (hG (dd := d) (hd := by omega) (hW := hW) (e := T0 17 (e).toNat) (lo := lo) (hi := e) (st := st) (e_st := show G 70 = st from (e_st)) (lg := lg) (e_lg := show G 79 = lg from (e_lg)) (lb := lb) (e_lb := show G 77 = lb from (e_lb)) (nw := nw) (e_nw := show G 81 = nw from (e_nw))  (h_e := ⟨(Int.le_trans (by decide : (-2147483648 : Int) ≤ -2147483648) b293.1), (Int.le_trans b293.2 (by decide : (2147483647 : Int) ≤ 2147483647))⟩)  (p_0 := p_0) (p_1 := p_1) (p_2 := p_2) (p_3 := p_3) (p_4 := by omega) (p_5 := by omega) (p_6 := by omega) (p_7 := by omega) (p_8 := by omega) (p_9 := by omega) (p_10 := by omega) (p_11 := by omega) (p_12 := by omega) (p_13 := hq5) (p_14 := by omega)) (fun o V_q hq => ?_)
    obtain ⟨G294, A295, st2_296, lg2_297, lb2_298, rfl, rfl, hW299, hF300, hQ301, e302, e303, e304, p305, p306, p307, p308, p309, p310, p311, p312, p313, -⟩ := hq
    have hF315 := Fr_tr hF0 hF300 (Fr_sub (by decide)) (Fr_sub (by decide))
    have hC316 := Fx_tr hC0 hQ301 (by omega)
    have bst2_296 : (-2147483648 : Int) ≤ st2_296 ∧ st2_296 ≤ 2147483647 := e302 ▸ hW299.1 70
    have blg2_297 : (0 : Int) ≤ lg2_297 ∧ lg2_297 ≤ 1 := e303 ▸ hW299.1 79
    have blb2_298 : (-2147483648 : Int) ≤ lb2_298 ∧ lb2_298 ≤ 2147483647 := e304 ▸ hW299.1 77
    refine .inl ⟨rfl, ?_⟩
    have hBo317 : Cd (lg2_297 = 0 ∧ lb2_298 < 19999) (Fx [50] (lb + 1) A A295) := Cd_mk (fun hC => Fx_tr (Cd_ap hBo0 (by omega)) (Cd_ap p312 (by omega)) (by omega))
    refine jx_go (tg := 206) rfl rfl ?_
    refine jx_rt (v := none) rfl rfl rfl rfl rfl rfl ?_
    exact ⟨_, _, st2_296, lg2_297, lb2_298, rfl, rfl, hW299, hF315, hC316, (e302), (e303), (e304), by omega, by omega, by omega, by omega, by omega, (Cd_mk (fun hC => by have := Cd_ap p310 (by omega); omega)), by omega, (Cd_mk (fun hC => Cd_ap hBo317 (by omega))), (Cd_mk (fun hC => (.inr (.inr (.inr (.inr (.inr (.inl ⟨by omega, (Cd_ap p313 (by omega))⟩)))))))), trivial⟩
  · refine jx_swt (tg := 201) (by omega) (by omega) rfl h2 rfl ?_
    have hkd4 : T0 15 (e).toNat = 4 := by omega
    refine jx_ld (pc_q := 202) (l_q := [(0, .ref 66), (1, .int (i32 (e)))]) (st_q := [.ref 66]) rfl (jl_aloadn rfl) ?_
    refine jx_ld (pc_q := 203) (l_q := [(0, .ref 66), (1, .int (i32 (e)))]) (st_q := [.int (i32 (e)), .ref 66]) rfl (jl_iloadn rfl) ?_
    refine jx_vr (pc_q := 206) (as := [.int (i32 (e))]) (st := []) rfl rfl rfl rfl ⟨rfl, rfl, Nat.le_of_ble_eq_true rfl⟩ rfl rfl (c_genTwo (dd := d) (hG := hG) (hd := by omega) (hW := hW) (e := e) (lo := lo) (hi := hi) (st := st) (e_st := show G 70 = st from (e_st)) (lg := lg) (e_lg := show G 79 = lg from (e_lg)) (lb := lb) (e_lb := show G 77 = lb from (e_lb)) (nw := nw) (e_nw := show G 81 = nw from (e_nw))  (h_e := ⟨(Int.le_trans (by decide : (-2147483648 : Int) ≤ -2147483648) h_e.1), (Int.le_trans h_e.2 (by decide : (2147483647 : Int) ≤ 2147483647))⟩)  (p_0 := p_0) (p_1 := p_1) (p_2 := p_2) (p_3 := p_3) (p_4 := by omega) (p_5 := by omega) (p_6 := by omega) (p_7 := by omega) (p_8 := by omega) (p_9 := by omega) (p_10 := by omega) (p_11 := by omega) (p_12 := by omega) (p_13 := p_13) (p_14 := by omega) (p_15 := by omega)) (fun o V_q hq => ?_)
    obtain ⟨G318, A319, st2_320, lg2_321, lb2_322, rfl, rfl, hW323, hF324, hQ325, e326, e327, e328, p329, p330, p331, p332, p333, p334, p335, p336, p337, -⟩ := hq
    have hF339 := Fr_tr hF0 hF324 (Fr_sub (by decide)) (Fr_sub (by decide))
    have hC340 := Fx_tr hC0 hQ325 (by omega)
    have bst2_320 : (-2147483648 : Int) ≤ st2_320 ∧ st2_320 ≤ 2147483647 := e326 ▸ hW323.1 70
    have blg2_321 : (0 : Int) ≤ lg2_321 ∧ lg2_321 ≤ 1 := e327 ▸ hW323.1 79
    have blb2_322 : (-2147483648 : Int) ≤ lb2_322 ∧ lb2_322 ≤ 2147483647 := e328 ▸ hW323.1 77
    refine .inl ⟨rfl, ?_⟩
    have hBo341 : Cd (lg2_321 = 0 ∧ lb2_322 < 19999) (Fx [50] (lb + 1) A A319) := Cd_mk (fun hC => Fx_tr (Cd_ap hBo0 (by omega)) (Cd_ap p336 (by omega)) (by omega))
    refine jx_rt (v := none) rfl rfl rfl rfl rfl rfl ?_
    exact ⟨_, _, st2_320, lg2_321, lb2_322, rfl, rfl, hW323, hF339, hC340, (e326), (e327), (e328), by omega, by omega, by omega, by omega, by omega, (Cd_mk (fun hC => by have := Cd_ap p334 (by omega); omega)), by omega, (Cd_mk (fun hC => Cd_ap hBo341 (by omega))), (Cd_mk (fun hC => (Cd_ap p337 (by omega)))), trivial⟩
theorem c_genE_0 {X : jX} {dd : Nat} {T0 : Nat → Nat → Int} {F Sn : Int → Int} {Vs : Nat → Prop} {sb : Int} {c0 c1 : jC} {G : Nat → Int} {A : Nat → Nat → Int} {T : jH} {e : Int} {lo hi : Int} {st lg lb nw : Int} (hd : 2 * 0 + 6 ≤ dd) (hW : Wk G A) (e_st : G 70 = st) (e_lg : G 79 = lg) (e_lb : G 77 = lb) (e_nw : G 81 = nw) (h_e : (-2147483648 : Int) ≤ e ∧ e ≤ 2147483647) (p_0 : TA T0 A) (p_1 : FA F (nw) A) (p_2 : SA T0 Vs Sn A) (p_3 : VW T0 Vs (nw)) (p_4 : 0 ≤ nw) (p_5 : nw ≤ 39) (p_6 : 0 ≤ st) (p_7 : st ≤ 7000) (p_8 : 0 ≤ lb) (p_9 : lb + (hi - lo) + 7000 - st ≤ 1990000000) (p_10 : 0 ≤ lo) (p_11 : hi ≤ 6999) (p_12 : sb ≤ 202) (p_13 : wE T0 Vs sb (0) (e) (lo) (hi)) (p_14 : ((0 : Nat) : Int) ≤ 30) : wk X dd 350 [.ref 66, .int (i32 e)] (rV c0 c1 G A T) (fun o V_q => ∃ (G_q : Nat → Int) (A_q : Nat → Nat → Int) (st2 : Int) (lg2 : Int) (lb2 : Int), V_q = rV c0 c1 G_q A_q T ∧ o = .inl none ∧ Wk G_q A_q ∧ Fr [70, 77, 79] [44, 45, 46, 47, 50] G A G_q A_q ∧ Fx [44, 45, 46, 47] (st) A A_q ∧ G_q 70 = st2 ∧ G_q 79 = lg2 ∧ G_q 77 = lb2 ∧ (st ≤ st2) ∧ (st2 ≤ 7000) ∧ (lg ≤ lg2) ∧ (lg2 ≤ 1) ∧ (lb ≤ lb2) ∧ (Cd (lg2 = 0) (lb2 - lb ≤ st2 - st)) ∧ (lb2 - lb ≤ st2 - st + (hi - lo)) ∧ (Cd (lg2 = 0 ∧ lb2 < 19999) (Fx [50] (lb + 1) A A_q)) ∧ (Cd (lg2 = 0 ∧ lb2 < 19999) (gE T0 A_q F Sn nw (0) (e) (st) (st2) (lb) (lb2))) ∧ True) := by
  exact False.elim p_13
theorem GE_all (X : jX) : ∀ k, GE X k
  | 0 => @c_genE_0 X
  | k + 1 => @c_genE_s X k (GE_all X k)
