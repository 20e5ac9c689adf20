/-- the steps of a store -/
def gT (T C : Nat → Nat → Int) (F S : Int → Int) (nw x k k_q l0 l1 : Int) : Prop :=
  (T 15 x.toNat = 3 ∧ ∃ a, gD T C F S nw 20 x k a l0 l1 ∧ ST C a k_q 14 0) ∨ (T 15 x.toNat ≠ 3 ∧ T 7 (T 17 x.toNat).toNat = 6 ∧ SQ C [(7, wd T F nw (T 17 x.toNat)), (14, 0)] k k_q) ∨ (T 15 x.toNat ≠ 3 ∧ T 7 (T 17 x.toNat).toNat ≠ 6 ∧ ST C k k_q 13 (wd T F nw (T 17 x.toNat)))
theorem gD_le {T C : Nat → Nat → Int} {F S : Int → Int} {nw : Int} {n : Nat} {x k k_q l0 l1 : Int} (h : gD T C F S nw n x k k_q l0 l1) : k ≤ k_q := by
  by_cases q : T 15 x.toNat = 3
  · obtain ⟨a, h1, h2⟩ := h.1 q
    have := gE_le h1
    have := SQ_le h2
    omega
  · exact ST_le (h.2 q)
theorem gT_le {T C : Nat → Nat → Int} {F S : Int → Int} {nw x k k_q l0 l1 : Int} (h : gT T C F S nw x k k_q l0 l1) : k ≤ k_q := by
  rcases h with ⟨_, a, h1, h2⟩ | h | h
  · have := gD_le h1
    have := ST_le h2
    omega
  · exact SQ_le h.2.2
  · exact ST_le h.2.2
theorem gT_mv {T C C_q : Nat → Nat → Int} {F S : Int → Int} {nw K x k k_q l0 l1 : Int} (g : Cg K l0 l1 C C_q) (hk : k_q ≤ K) (h : gT T C F S nw x k k_q l0 l1) : gT T C_q F S nw x k k_q l0 l1 := by
  rcases h with ⟨h0, a, h1, h2⟩ | h | h
  · have := ST_le h2
    exact .inl ⟨h0, a, gD_mv g (by omega) h1, ST_mv g hk h2⟩
  · exact .inr (.inl ⟨h.1, h.2.1, SQ_mv g hk h.2.2⟩)
  · exact .inr (.inr ⟨h.1, h.2.1, ST_mv g hk h.2.2⟩)
theorem wR_sy {T : Nat → Nat → Int} {V : Nat → Prop} {sb e lo hi : Int} {n : Nat} (h : wR T V sb n 0 e lo hi) : SY V sb (T 17 e.toNat) ∧ 1 ≤ T 7 (T 17 e.toNat).toNat ∧ T 7 (T 17 e.toNat).toNat ≤ 7 := by
  obtain ⟨_, _, h⟩ := h
  rcases h with h | h
  · refine ⟨h.2.1, ?_⟩
    have := h.2.2
    unfold kRef kVar at this
    omega
  · refine ⟨h.2.1, ?_⟩
    have := h.2.2.1
    unfold kRow kArr at this
    omega

set_option maxRecDepth 20000 in
set_option maxHeartbeats 4000000 in
theorem c_genStore {X : jX} {dd : Nat} {T0 : Nat → Nat → Int} {F Sn : Int → Int} {Vs : Nat → Prop} {sb : Int} {c0 c1 : jC} {G : Nat → Int} {A : Nat → Nat → Int} {T : jH} {x : Int} {lo hi : Int} {st lg lb nw : Int} (hd : 2 * 20 + 8 ≤ dd) (hW : Wk G A) (e_st : G 70 = st) (e_lg : G 79 = lg) (e_lb : G 77 = lb) (e_nw : G 81 = nw) (h_x : (-2147483648 : Int) ≤ x ∧ x ≤ 2147483647) (p_0 : TA T0 A) (p_1 : FA F (nw) A) (p_2 : SA T0 Vs Sn A) (p_3 : VW T0 Vs (nw)) (p_4 : 0 ≤ nw) (p_5 : nw ≤ 39) (p_6 : 0 ≤ st) (p_7 : st ≤ 7000) (p_8 : 0 ≤ lb) (p_9 : lb + (hi - lo) + 7000 - st ≤ 1990000000) (p_10 : 0 ≤ lo) (p_11 : hi ≤ 6999) (p_12 : sb ≤ 202) (p_13 : wR T0 Vs sb 20 (0) (x) (lo) (hi)) : wk X dd 354 [.ref 66, .int (i32 x)] (rV c0 c1 G A T) (fun o V_q => ∃ (G_q : Nat → Int) (A_q : Nat → Nat → Int) (st2 : Int) (lg2 : Int) (lb2 : Int), V_q = rV c0 c1 G_q A_q T ∧ o = .inl none ∧ Wk G_q A_q ∧ Fr [70, 77, 79] [44, 45, 46, 47, 50] G A G_q A_q ∧ Fx [44, 45, 46, 47] (st) A A_q ∧ G_q 70 = st2 ∧ G_q 79 = lg2 ∧ G_q 77 = lb2 ∧ (st ≤ st2) ∧ (st2 ≤ 7000) ∧ (lg ≤ lg2) ∧ (lg2 ≤ 1) ∧ (lb ≤ lb2) ∧ (Cd (lg2 = 0) (lb2 - lb ≤ st2 - st)) ∧ (lb2 - lb ≤ st2 - st + (hi - lo)) ∧ (Cd (lg2 = 0 ∧ lb2 < 19999) (Fx [50] (lb + 1) A A_q)) ∧ (Cd (lg2 = 0 ∧ lb2 < 19999) (gT T0 A_q F Sn nw (x) (st) (st2) (lb) (lb2))) ∧ True) := by
  obtain ⟨d, rfl⟩ : ∃ d, dd = d + 1 := ⟨dd - 1, by omega⟩
  refine wk_of (e := jm354) rfl (Nat.le_of_ble_eq_true rfl) ?_
  show wj X d jm354 (0, [(0, .ref 66), (1, .int (i32 (x)))], [], rV c0 c1 G A T) _
  have hF0 : Fr [70, 77, 79] [44, 45, 46, 47, 50] G A G A := Fr_rf
  have hC0 : Fx [44, 45, 46, 47] (st) A A := Fx_rf
  have b_st : (-2147483648 : Int) ≤ st ∧ st ≤ 2147483647 := e_st ▸ hW.1 70
  have b_lg : (0 : Int) ≤ lg ∧ lg ≤ 1 := e_lg ▸ hW.1 79
  have b_lb : (-2147483648 : Int) ≤ lb ∧ lb ≤ 2147483647 := e_lb ▸ hW.1 77
  have b_nw : (-2147483648 : Int) ≤ nw ∧ nw ≤ 2147483647 := e_nw ▸ hW.1 81
  have hWT := TA_w hW p_0
  have hBo0 : Cd (lg = 0 ∧ lb < 19999) (Fx [50] (lb + 1) A A) := Cd_mk (fun _ => Fx_rf)
  have hpx := pX_wR p_13; have hsy := wR_sy p_13; have hs1 := hsy.1.1; have hs2 := hsy.1.2.1; have hk1 := hsy.2.1; have hk2 := hsy.2.2; have hx := wR_kd p_13
  refine jx_ld (pc_q := 1) (l_q := [(0, .ref 66), (1, .int (i32 (x)))]) (st_q := [.ref 66]) rfl (jl_aloadn rfl) ?_
  refine jr_get (pc_q := 4) (i := 34) (v := .ref 84) rfl rfl (by decide) rfl rfl ?_
  refine jx_ld (pc_q := 5) (l_q := [(0, .ref 66), (1, .int (i32 (x)))]) (st_q := [.int (i32 (x)), .ref 84]) rfl (jl_iloadn rfl) ?_
  have b1 : (-2147483648 : Int) ≤ T0 17 (x).toNat ∧ T0 17 (x).toNat ≤ 2147483647 := hWT.2 17 _
  refine jr_ldv (pc_q := 6) (i := 17) (m := 7000) (z := x) (y := T0 17 (x).toNat) rfl (by decide) rfl (by decide) (by omega) (by omega) rfl (show A 17 (x).toNat = T0 17 (x).toNat from (congrFun (p_0 17 rfl) _)) ?_
  refine jx_ld (pc_q := 7) (l_q := jSto1 [(0, .ref 66), (1, .int (i32 (x)))] 2 (.int (i32 (T0 17 (x).toNat)))) (st_q := []) rfl rfl ?_
  obtain ⟨L2, eL2⟩ : ∃ q, q = jSto1 [(0, .ref 66), (1, .int (i32 (x)))] 2 (.int (i32 (T0 17 (x).toNat))) := ⟨_, rfl⟩
  rw [← eL2]
  have gL2_0 : jGet L2 0 = some (.ref 66) := eL2 ▸ jg_ne (by decide) (rfl : jGet [(0, .ref 66), (1, .int (i32 (x)))] 0 = some (.ref 66)) rfl
  have gL2_1 : jGet L2 1 = some (.int (i32 (x))) := eL2 ▸ jg_ne (by decide) (rfl : jGet [(0, .ref 66), (1, .int (i32 (x)))] 1 = some (.int (i32 (x)))) rfl
  have gL2_2 : jGet L2 2 = some (.int (i32 (T0 17 (x).toNat))) := eL2 ▸ jg_eq
  refine jx_ld (pc_q := 8) (l_q := L2) (st_q := [.ref 66]) rfl (jl_aloadn gL2_0) ?_
  refine jr_get (pc_q := 11) (i := 32) (v := .ref 82) rfl rfl (by decide) rfl rfl ?_
  refine jx_ld (pc_q := 12) (l_q := L2) (st_q := [.int (i32 (x)), .ref 82]) rfl (jl_iloadn gL2_1) ?_
  have b3 : (0 : Int) ≤ T0 15 (x).toNat ∧ T0 15 (x).toNat ≤ 34 := hWT.2 15 _
  refine jr_ldv (pc_q := 13) (i := 15) (m := 7000) (z := x) (y := T0 15 (x).toNat) rfl (by decide) rfl (by decide) (by omega) (by omega) rfl (show A 15 (x).toNat = T0 15 (x).toNat from (congrFun (p_0 15 rfl) _)) ?_
  refine jx_ar (pc_q := 14) (st_q := [.int (i32 (3)), .int (i32 (T0 15 (x).toNat))]) rfl rfl rfl rfl ?_
  refine jx_icmp_ne (pc_q := 17) (tg := 32) rfl rfl rfl (Int.le_trans (by decide : (-2147483648 : Int) ≤ 0) b3.1) (Int.le_trans b3.2 (by decide : (34 : Int) ≤ 2147483647)) (by decide) (by decide) (fun h4 => ?_) (fun h4 => ?_)
  · have _q := h4
    refine jx_ld (pc_q := 33) (l_q := L2) (st_q := [.ref 66]) rfl (jl_aloadn gL2_0) ?_
    refine jr_get (pc_q := 36) (i := 21) (v := .ref 74) rfl rfl (by decide) rfl rfl ?_
    refine jx_ld (pc_q := 37) (l_q := L2) (st_q := [.int (i32 (T0 17 (x).toNat)), .ref 74]) rfl (jl_iloadn gL2_2) ?_
    have b5 : (0 : Int) ≤ T0 7 (T0 17 (x).toNat).toNat ∧ T0 7 (T0 17 (x).toNat).toNat ≤ 14 := hWT.2 7 _
    refine jr_ldv (pc_q := 38) (i := 7) (m := 260) (z := T0 17 (x).toNat) (y := T0 7 (T0 17 (x).toNat).toNat) rfl (by decide) rfl (by decide) (by omega) (by omega) rfl (show A 7 (T0 17 (x).toNat).toNat = T0 7 (T0 17 (x).toNat).toNat from (congrFun (p_0 7 rfl) _)) ?_
    refine jx_ar (pc_q := 40) (st_q := [.int (i32 (6)), .int (i32 (T0 7 (T0 17 (x).toNat).toNat))]) rfl rfl rfl rfl ?_
    refine jx_icmp_ne (pc_q := 43) (tg := 64) rfl rfl rfl (Int.le_trans (by decide : (-2147483648 : Int) ≤ 0) b5.1) (Int.le_trans b5.2 (by decide : (14 : Int) ≤ 2147483647)) (by decide) (by decide) (fun h6 => ?_) (fun h6 => ?_)
    · have _q := h6
      refine jx_ld (pc_q := 65) (l_q := L2) (st_q := [.ref 66]) rfl (jl_aloadn gL2_0) ?_
      refine jx_ar (pc_q := 67) (st_q := [.int (i32 (13)), .ref 66]) rfl rfl rfl rfl ?_
      refine jx_ld (pc_q := 68) (l_q := L2) (st_q := [.ref 66, .int (i32 (13)), .ref 66]) rfl (jl_aloadn gL2_0) ?_
      refine jx_ld (pc_q := 69) (l_q := L2) (st_q := [.int (i32 (T0 17 (x).toNat)), .ref 66, .int (i32 (13)), .ref 66]) rfl (jl_iloadn gL2_2) ?_
      refine jx_vr (pc_q := 72) (as := [.int (i32 (T0 17 (x).toNat))]) (st := [.int (i32 (13)), .ref 66]) rfl rfl rfl rfl ⟨rfl, rfl, Nat.le_of_ble_eq_true rfl⟩ rfl rfl (c_wordOf (dd := d) (hd := by omega) (hW := hW) (s := T0 17 (x).toNat) (nw := nw) (e_nw := show G 81 = nw from (e_nw))  (h_s := ⟨(Int.le_trans (by decide : (-2147483648 : Int) ≤ -2147483648) b1.1), (Int.le_trans b1.2 (by decide : (2147483647 : Int) ≤ 2147483647))⟩)  (p_0 := p_0) (p_1 := p_1) (p_2 := p_2) (p_3 := p_3) (p_4 := by omega) (p_5 := by omega) (p_6 := by omega) (p_7 := by omega) (p_8 := (show Vs (T0 17 (x).toNat).toNat from hsy.1.2.2)) (p_9 := by omega)) (fun o V_q hq => ?_)
      obtain ⟨r7, rfl, rfl, b8, p9, -⟩ := hq
      refine .inr ⟨_, rfl, ?_⟩
      refine jx_vr (pc_q := 75) (as := [.int (i32 (13)), .int (i32 (r7))]) (st := []) rfl rfl rfl rfl ⟨rfl, rfl, Nat.le_of_ble_eq_true rfl⟩ rfl rfl (c_emit (dd := d) (hd := by omega) (hW := hW) (fn := 13) (v := r7) (st := st) (e_st := show G 70 = st from (e_st)) (lg := lg) (e_lg := show G 79 = lg from (e_lg))  (h_fn := ⟨(by decide), (by decide)⟩) (h_v := ⟨(Int.le_trans (by decide : (-2147483648 : Int) ≤ -2147483648) b8.1), (Int.le_trans b8.2 (by decide : (2147483647 : Int) ≤ 2147483647))⟩)  (p_0 := by omega) (p_1 := by omega)) (fun o V_q hq => ?_)
      obtain ⟨G11, A12, st2_13, lg2_14, rfl, rfl, hW15, hF16, hQ17, e18, e19, p20, p21, p22, p23, p24, p25, -⟩ := hq
      have hF27 := Fr_tr hF0 hF16 (Fr_sub (by decide)) (Fr_sub (by decide))
      have hC28 := Fx_tr hC0 hQ17 (by omega)
      have bst2_13 : (-2147483648 : Int) ≤ st2_13 ∧ st2_13 ≤ 2147483647 := e18 ▸ hW15.1 70
      have blg2_14 : (0 : Int) ≤ lg2_14 ∧ lg2_14 ≤ 1 := e19 ▸ hW15.1 79
      refine .inl ⟨rfl, ?_⟩
      have hBo29 : Cd (lg2_14 = 0 ∧ lb < 19999) (Fx [50] (lb + 1) A A12) := Cd_mk (fun hC => Fx_f (Cd_ap hBo0 (by omega)) hF16 (by decide))
      refine jx_rt (v := none) rfl rfl rfl rfl rfl rfl ?_
      exact ⟨_, _, st2_13, lg2_14, lb, rfl, rfl, hW15, hF27, hC28, (e18), (e19), ((hF16.1 77 rfl).trans (e_lb)), by omega, by omega, by omega, by omega, by omega, (Cd_mk (fun hC => by omega)), by omega, (Cd_mk (fun hC => Cd_ap hBo29 (by omega))), (Cd_mk (fun hC => (.inr (.inr ⟨by omega, by omega, ST_e (Cd_ap p25 (by omega)) rfl (by omega)⟩)))), trivial⟩
    · have _q := h6
      refine jx_ld (pc_q := 44) (l_q := L2) (st_q := [.ref 66]) rfl (jl_aloadn gL2_0) ?_
      refine jx_ar (pc_q := 46) (st_q := [.int (i32 (7)), .ref 66]) rfl rfl rfl rfl ?_
      refine jx_ld (pc_q := 47) (l_q := L2) (st_q := [.ref 66, .int (i32 (7)), .ref 66]) rfl (jl_aloadn gL2_0) ?_
      refine jx_ld (pc_q := 48) (l_q := L2) (st_q := [.int (i32 (T0 17 (x).toNat)), .ref 66, .int (i32 (7)), .ref 66]) rfl (jl_iloadn gL2_2) ?_
      refine jx_vr (pc_q := 51) (as := [.int (i32 (T0 17 (x).toNat))]) (st := [.int (i32 (7)), .ref 66]) rfl rfl rfl rfl ⟨rfl, rfl, Nat.le_of_ble_eq_true rfl⟩ rfl rfl (c_wordOf (dd := d) (hd := by omega) (hW := hW) (s := T0 17 (x).toNat) (nw := nw) (e_nw := show G 81 = nw from (e_nw))  (h_s := ⟨(Int.le_trans (by decide : (-2147483648 : Int) ≤ -2147483648) b1.1), (Int.le_trans b1.2 (by decide : (2147483647 : Int) ≤ 2147483647))⟩)  (p_0 := p_0) (p_1 := p_1) (p_2 := p_2) (p_3 := p_3) (p_4 := by omega) (p_5 := by omega) (p_6 := by omega) (p_7 := by omega) (p_8 := (show Vs (T0 17 (x).toNat).toNat from hsy.1.2.2)) (p_9 := by omega)) (fun o V_q hq => ?_)
      obtain ⟨r30, rfl, rfl, b31, p32, -⟩ := hq
      refine .inr ⟨_, rfl, ?_⟩
      refine jx_vr (pc_q := 54) (as := [.int (i32 (7)), .int (i32 (r30))]) (st := []) rfl rfl rfl rfl ⟨rfl, rfl, Nat.le_of_ble_eq_true rfl⟩ rfl rfl (c_emit (dd := d) (hd := by omega) (hW := hW) (fn := 7) (v := r30) (st := st) (e_st := show G 70 = st from (e_st)) (lg := lg) (e_lg := show G 79 = lg from (e_lg))  (h_fn := ⟨(by decide), (by decide)⟩) (h_v := ⟨(Int.le_trans (by decide : (-2147483648 : Int) ≤ -2147483648) b31.1), (Int.le_trans b31.2 (by decide : (2147483647 : Int) ≤ 2147483647))⟩)  (p_0 := by omega) (p_1 := by omega)) (fun o V_q hq => ?_)
      obtain ⟨G34, A35, st2_36, lg2_37, rfl, rfl, hW38, hF39, hQ40, e41, e42, p43, p44, p45, p46, p47, p48, -⟩ := hq
      have hF50 := Fr_tr hF0 hF39 (Fr_sub (by decide)) (Fr_sub (by decide))
      have hC51 := Fx_tr hC0 hQ40 (by omega)
      have bst2_36 : (-2147483648 : Int) ≤ st2_36 ∧ st2_36 ≤ 2147483647 := e41 ▸ hW38.1 70
      have blg2_37 : (0 : Int) ≤ lg2_37 ∧ lg2_37 ≤ 1 := e42 ▸ hW38.1 79
      refine .inl ⟨rfl, ?_⟩
      have hBo52 : Cd (lg2_37 = 0 ∧ lb < 19999) (Fx [50] (lb + 1) A A35) := Cd_mk (fun hC => Fx_f (Cd_ap hBo0 (by omega)) hF39 (by decide))
      refine jx_ld (pc_q := 55) (l_q := L2) (st_q := [.ref 66]) rfl (jl_aloadn gL2_0) ?_
      refine jx_ar (pc_q := 57) (st_q := [.int (i32 (14)), .ref 66]) rfl rfl rfl rfl ?_
      refine jx_ar (pc_q := 58) (st_q := [.int (i32 (0)), .int (i32 (14)), .ref 66]) rfl rfl rfl rfl ?_
      refine jx_vr (pc_q := 61) (as := [.int (i32 (14)), .int (i32 (0))]) (st := []) rfl rfl rfl rfl ⟨rfl, rfl, Nat.le_of_ble_eq_true rfl⟩ rfl rfl (c_emit (dd := d) (hd := by omega) (hW := hW38) (fn := 14) (v := 0) (st := st2_36) (e_st := show G34 70 = st2_36 from (e41)) (lg := lg2_37) (e_lg := show G34 79 = lg2_37 from (e42))  (h_fn := ⟨(by decide), (by decide)⟩) (h_v := ⟨(by decide), (by decide)⟩)  (p_0 := by omega) (p_1 := by omega)) (fun o V_q hq => ?_)
      obtain ⟨G53, A54, st2_55, lg2_56, rfl, rfl, hW57, hF58, hQ59, e60, e61, p62, p63, p64, p65, p66, p67, -⟩ := hq
      have hF69 := Fr_tr hF50 hF58 (Fr_sub (by decide)) (Fr_sub (by decide))
      have hC70 := Fx_tr hC51 hQ59 (by omega)
      have bst2_55 : (-2147483648 : Int) ≤ st2_55 ∧ st2_55 ≤ 2147483647 := e60 ▸ hW57.1 70
      have blg2_56 : (0 : Int) ≤ lg2_56 ∧ lg2_56 ≤ 1 := e61 ▸ hW57.1 79
      refine .inl ⟨rfl, ?_⟩
      have sf71 : Cd (lg2_56 = 0 ∧ lb < 19999) (ST A54 (st) (st2_36) (7) (r30)) := Cd_mk (fun hC => ST_mv (Cg_fx (l0 := 0) (l1 := 0) hQ59 (Fx_f (w := 0 + 1) Fx_rf hF58 (by decide)) (by omega)) (by omega) (Cd_ap p48 (by omega)))
      have hBo72 : Cd (lg2_56 = 0 ∧ lb < 19999) (Fx [50] (lb + 1) A A54) := Cd_mk (fun hC => Fx_f (Cd_ap hBo52 (by omega)) hF58 (by decide))
      refine jx_go (tg := 75) rfl rfl ?_
      refine jx_rt (v := none) rfl rfl rfl rfl rfl rfl ?_
      exact ⟨_, _, st2_55, lg2_56, lb, rfl, rfl, hW57, hF69, hC70, (e60), (e61), ((hF58.1 77 rfl).trans ((hF39.1 77 rfl).trans (e_lb))), by omega, by omega, by omega, by omega, by omega, (Cd_mk (fun hC => by omega)), by omega, (Cd_mk (fun hC => Cd_ap hBo72 (by omega))), (Cd_mk (fun hC => (.inr (.inl ⟨by omega, by omega, SQ_c (ST_e (Cd_ap sf71 (by omega)) rfl (by omega)) (SQ_c (Cd_ap p67 (by omega)) SQ_n)⟩)))), trivial⟩
  · have _q := h4
    have _q : True := trivial
    refine jx_ld (pc_q := 18) (l_q := L2) (st_q := [.ref 66]) rfl (jl_aloadn gL2_0) ?_
    refine jx_ld (pc_q := 19) (l_q := L2) (st_q := [.int (i32 (x)), .ref 66]) rfl (jl_iloadn gL2_1) ?_
    refine jx_vr (pc_q := 22) (as := [.int (i32 (x))]) (st := []) rfl rfl rfl rfl ⟨rfl, rfl, Nat.le_of_ble_eq_true rfl⟩ rfl rfl (c_genAddress (dd := d) (k := 20) (hG := GE_all X 20) (hd := by omega) (hW := hW) (x := x) (lo := lo) (hi := hi) (st := st) (e_st := show G 70 = st from (e_st)) (lg := lg) (e_lg := show G 79 = lg from (e_lg)) (lb := lb) (e_lb := show G 77 = lb from (e_lb)) (nw := nw) (e_nw := show G 81 = nw from (e_nw))  (h_x := ⟨(Int.le_trans (by decide : (-2147483648 : Int) ≤ -2147483648) h_x.1), (Int.le_trans h_x.2 (by decide : (2147483647 : Int) ≤ 2147483647))⟩)  (p_0 := p_0) (p_1 := p_1) (p_2 := p_2) (p_3 := p_3) (p_4 := by omega) (p_5 := by omega) (p_6 := by omega) (p_7 := by omega) (p_8 := by omega) (p_9 := by omega) (p_10 := by omega) (p_11 := by omega) (p_12 := by omega) (p_13 := hpx) (p_14 := by omega)) (fun o V_q hq => ?_)
    obtain ⟨G73, A74, st2_75, lg2_76, lb2_77, rfl, rfl, hW78, hF79, hQ80, e81, e82, e83, p84, p85, p86, p87, p88, p89, p90, p91, p92, -⟩ := hq
    have hF94 := Fr_tr hF0 hF79 (Fr_sub (by decide)) (Fr_sub (by decide))
    have hC95 := Fx_tr hC0 hQ80 (by omega)
    have bst2_75 : (-2147483648 : Int) ≤ st2_75 ∧ st2_75 ≤ 2147483647 := e81 ▸ hW78.1 70
    have blg2_76 : (0 : Int) ≤ lg2_76 ∧ lg2_76 ≤ 1 := e82 ▸ hW78.1 79
    have blb2_77 : (-2147483648 : Int) ≤ lb2_77 ∧ lb2_77 ≤ 2147483647 := e83 ▸ hW78.1 77
    refine .inl ⟨rfl, ?_⟩
    have hBo96 : Cd (lg2_76 = 0 ∧ lb2_77 < 19999) (Fx [50] (lb + 1) A A74) := Cd_mk (fun hC => Fx_tr (Cd_ap hBo0 (by omega)) (Cd_ap p91 (by omega)) (by omega))
    refine jx_ld (pc_q := 23) (l_q := L2) (st_q := [.ref 66]) rfl (jl_aloadn gL2_0) ?_
    refine jx_ar (pc_q := 25) (st_q := [.int (i32 (14)), .ref 66]) rfl rfl rfl rfl ?_
    refine jx_ar (pc_q := 26) (st_q := [.int (i32 (0)), .int (i32 (14)), .ref 66]) rfl rfl rfl rfl ?_
    refine jx_vr (pc_q := 29) (as := [.int (i32 (14)), .int (i32 (0))]) (st := []) rfl rfl rfl rfl ⟨rfl, rfl, Nat.le_of_ble_eq_true rfl⟩ rfl rfl (c_emit (dd := d) (hd := by omega) (hW := hW78) (fn := 14) (v := 0) (st := st2_75) (e_st := show G73 70 = st2_75 from (e81)) (lg := lg2_76) (e_lg := show G73 79 = lg2_76 from (e82))  (h_fn := ⟨(by decide), (by decide)⟩) (h_v := ⟨(by decide), (by decide)⟩)  (p_0 := by omega) (p_1 := by omega)) (fun o V_q hq => ?_)
    obtain ⟨G97, A98, st2_99, lg2_100, rfl, rfl, hW101, hF102, hQ103, e104, e105, p106, p107, p108, p109, p110, p111, -⟩ := hq
    have hF113 := Fr_tr hF94 hF102 (Fr_sub (by decide)) (Fr_sub (by decide))
    have hC114 := Fx_tr hC95 hQ103 (by omega)
    have bst2_99 : (-2147483648 : Int) ≤ st2_99 ∧ st2_99 ≤ 2147483647 := e104 ▸ hW101.1 70
    have blg2_100 : (0 : Int) ≤ lg2_100 ∧ lg2_100 ≤ 1 := e105 ▸ hW101.1 79
    refine .inl ⟨rfl, ?_⟩
    have sf115 : Cd (lg2_100 = 0 ∧ lb2_77 < 19999) (gD T0 A98 F Sn nw (20) (x) (st) (st2_75) (lb) (lb2_77)) := Cd_mk (fun hC => gD_mv (Cg_fx (l0 := lb) (l1 := lb2_77) hQ103 (Fx_f (w := lb2_77 + 1) Fx_rf hF102 (by decide)) (by omega)) (by omega) (Cd_ap p92 (by omega)))
    have hBo116 : Cd (lg2_100 = 0 ∧ lb2_77 < 19999) (Fx [50] (lb + 1) A A98) := Cd_mk (fun hC => Fx_f (Cd_ap hBo96 (by omega)) hF102 (by decide))
    refine jx_go (tg := 75) rfl rfl ?_
    refine jx_rt (v := none) rfl rfl rfl rfl rfl rfl ?_
    exact ⟨_, _, st2_99, lg2_100, lb2_77, rfl, rfl, hW101, hF113, hC114, (e104), (e105), ((hF102.1 77 rfl).trans (e83)), by omega, by omega, by omega, by omega, by omega, (Cd_mk (fun hC => by have := Cd_ap p89 (by omega); omega)), by omega, (Cd_mk (fun hC => Cd_ap hBo116 (by omega))), (Cd_mk (fun hC => (.inl ⟨by omega, _, (Cd_ap sf115 (by omega)), (Cd_ap p111 (by omega))⟩))), trivial⟩
