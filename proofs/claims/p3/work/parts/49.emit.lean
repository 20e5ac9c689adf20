set_option maxRecDepth 20000 in
set_option maxHeartbeats 4000000 in
theorem c_emit {X : jX} {dd : Nat} {c0 c1 : jC} {G : Nat → Int} {A : Nat → Nat → Int} {T : jH} {fn v : Int} {st lg : Int} (hd : 1 ≤ dd) (hW : Wk G A) (e_st : G 70 = st) (e_lg : G 79 = lg) (h_fn : (-2147483648 : Int) ≤ fn ∧ fn ≤ 2147483647) (h_v : (-2147483648 : Int) ≤ v ∧ v ≤ 2147483647) (p_0 : 0 ≤ st) (p_1 : st ≤ 7000) : wk X dd 342 [.ref 66, .int (i32 fn), .int (i32 v)] (rV c0 c1 G A T) (fun o V_q => ∃ (G_q : Nat → Int) (A_q : Nat → Nat → Int) (st2 : Int) (lg2 : Int), V_q = rV c0 c1 G_q A_q T ∧ o = .inl none ∧ Wk G_q A_q ∧ Fr [70, 79] [44, 45, 46, 47] G A G_q A_q ∧ Fx [44, 45, 46, 47] (st) A A_q ∧ G_q 70 = st2 ∧ G_q 79 = lg2 ∧ (st ≤ st2) ∧ (st2 ≤ 7000) ∧ (lg ≤ lg2) ∧ (st + 1 - lg2 ≤ st2) ∧ (st2 ≤ st + 1) ∧ (Cd (lg2 = 0) (ST A_q (st) (st2) (fn) (v))) ∧ True) := by
  obtain ⟨d, rfl⟩ : ∃ d, dd = d + 1 := ⟨dd - 1, by omega⟩
  refine wk_of (e := jm342) rfl (Nat.le_of_ble_eq_true rfl) ?_
  show wj X d jm342 (0, [(0, .ref 66), (1, .int (i32 (fn))), (2, .int (i32 (v)))], [], rV c0 c1 G A T) _
  have hF0 : Fr [70, 79] [44, 45, 46, 47] G A G A := Fr_rf
  have hC0 : Fx [44, 45, 46, 47] (st) A A := Fx_rf
  have b_st : (-2147483648 : Int) ≤ st ∧ st ≤ 2147483647 := e_st ▸ hW.1 70
  have b_lg : (0 : Int) ≤ lg ∧ lg ≤ 1 := e_lg ▸ hW.1 79
  refine jx_ld (pc_q := 1) (l_q := [(0, .ref 66), (1, .int (i32 (fn))), (2, .int (i32 (v)))]) (st_q := [.ref 66]) rfl (jl_aloadn rfl) ?_
  refine jr_get (pc_q := 4) (i := 70) (v := .int (i32 (st))) rfl rfl (by decide) (rFv_eq (by decide) (show G 70 = st from (e_st))) rfl ?_
  refine jx_ar (pc_q := 7) (st_q := [.int (i32 (7000)), .int (i32 (st))]) rfl rfl rfl rfl ?_
  refine jx_icmp_ne (pc_q := 10) (tg := 16) rfl rfl rfl (Int.le_trans (by decide : (-2147483648 : Int) ≤ -2147483648) b_st.1) (Int.le_trans b_st.2 (by decide : (2147483647 : Int) ≤ 2147483647)) (by decide) (by decide) (fun h1 => ?_) (fun h1 => ?_)
  · have _q := h1
    refine jx_ld (pc_q := 17) (l_q := [(0, .ref 66), (1, .int (i32 (fn))), (2, .int (i32 (v)))]) (st_q := [.ref 66]) rfl (jl_aloadn rfl) ?_
    refine jr_get (pc_q := 20) (i := 71) (v := .ref 111) rfl rfl (by decide) rfl rfl ?_
    refine jx_ld (pc_q := 21) (l_q := [(0, .ref 66), (1, .int (i32 (fn))), (2, .int (i32 (v)))]) (st_q := [.ref 66, .ref 111]) rfl (jl_aloadn rfl) ?_
    refine jr_get (pc_q := 24) (i := 70) (v := .int (i32 (st))) rfl rfl (by decide) (rFv_eq (by decide) (show G 70 = st from (e_st))) rfl ?_
    refine jx_ld (pc_q := 25) (l_q := [(0, .ref 66), (1, .int (i32 (fn))), (2, .int (i32 (v)))]) (st_q := [.int (i32 (fn)), .int (i32 (st)), .ref 111]) rfl (jl_iloadn rfl) ?_
    refine jr_st (pc_q := 26) (i := 44) (m := 7000) (z := st) (y := fn) rfl (by decide) rfl (by decide) (by omega) (by omega) rfl ?_
    have hW3 : Wk G (uA A 44 (st).toNat (fn)) := Wk_a hW (show (-2147483648 : Int) ≤ fn by omega) (show fn ≤ (2147483647 : Int) by omega)
    have hF4 := Fr_a (z := fn) (k := 44) (n := (st).toNat) hF0 (by decide)
    obtain ⟨A2, eA2⟩ : ∃ q, q = uA A 44 (st).toNat (fn) := ⟨_, rfl⟩
    rw [← eA2]
    rw [← eA2] at hW3 hF4
    have q5 : A2 44 (st).toNat = fn := by rw [eA2]; exact uA_eq
    have hC6 : Fx [44, 45, 46, 47] (st) A A2 := eA2 ▸ Fx_a hC0 (z := st) (by omega) (by omega)
    refine jx_ld (pc_q := 27) (l_q := [(0, .ref 66), (1, .int (i32 (fn))), (2, .int (i32 (v)))]) (st_q := [.ref 66]) rfl (jl_aloadn rfl) ?_
    refine jr_get (pc_q := 30) (i := 72) (v := .ref 112) rfl rfl (by decide) rfl rfl ?_
    refine jx_ld (pc_q := 31) (l_q := [(0, .ref 66), (1, .int (i32 (fn))), (2, .int (i32 (v)))]) (st_q := [.ref 66, .ref 112]) rfl (jl_aloadn rfl) ?_
    refine jr_get (pc_q := 34) (i := 70) (v := .int (i32 (st))) rfl rfl (by decide) (rFv_eq (by decide) (show G 70 = st from (e_st))) rfl ?_
    refine jx_ld (pc_q := 35) (l_q := [(0, .ref 66), (1, .int (i32 (fn))), (2, .int (i32 (v)))]) (st_q := [.int (i32 (v)), .int (i32 (st)), .ref 112]) rfl (jl_iloadn rfl) ?_
    refine jr_st (pc_q := 36) (i := 45) (m := 7000) (z := st) (y := v) rfl (by decide) rfl (by decide) (by omega) (by omega) rfl ?_
    have hW8 : Wk G (uA A2 45 (st).toNat (v)) := Wk_a hW3 (show (-2147483648 : Int) ≤ v by omega) (show v ≤ (2147483647 : Int) by omega)
    have hF9 := Fr_a (z := v) (k := 45) (n := (st).toNat) hF4 (by decide)
    obtain ⟨A7, eA7⟩ : ∃ q, q = uA A2 45 (st).toNat (v) := ⟨_, rfl⟩
    rw [← eA7]
    rw [← eA7] at hW8 hF9
    have q10 : A7 45 (st).toNat = v := by rw [eA7]; exact uA_eq
    have hC11 : Fx [44, 45, 46, 47] (st) A A7 := eA7 ▸ Fx_a hC6 (z := st) (by omega) (by omega)
    refine jx_ld (pc_q := 37) (l_q := [(0, .ref 66), (1, .int (i32 (fn))), (2, .int (i32 (v)))]) (st_q := [.ref 66]) rfl (jl_aloadn rfl) ?_
    refine jr_get (pc_q := 40) (i := 73) (v := .ref 113) rfl rfl (by decide) rfl rfl ?_
    refine jx_ld (pc_q := 41) (l_q := [(0, .ref 66), (1, .int (i32 (fn))), (2, .int (i32 (v)))]) (st_q := [.ref 66, .ref 113]) rfl (jl_aloadn rfl) ?_
    refine jr_get (pc_q := 44) (i := 70) (v := .int (i32 (st))) rfl rfl (by decide) (rFv_eq (by decide) (show G 70 = st from (e_st))) rfl ?_
    refine jx_ar (pc_q := 45) (st_q := [.int (i32 (0)), .int (i32 (st)), .ref 113]) rfl rfl rfl rfl ?_
    refine jr_st (pc_q := 46) (i := 46) (m := 7000) (z := st) (y := 0) rfl (by decide) rfl (by decide) (by omega) (by omega) rfl ?_
    have hW13 : Wk G (uA A7 46 (st).toNat (0)) := Wk_a hW8 (show (-2147483648 : Int) ≤ 0 by omega) (show 0 ≤ (2147483647 : Int) by omega)
    have hF14 := Fr_a (z := 0) (k := 46) (n := (st).toNat) hF9 (by decide)
    obtain ⟨A12, eA12⟩ : ∃ q, q = uA A7 46 (st).toNat (0) := ⟨_, rfl⟩
    rw [← eA12]
    rw [← eA12] at hW13 hF14
    have q15 : A12 46 (st).toNat = 0 := by rw [eA12]; exact uA_eq
    have hC16 : Fx [44, 45, 46, 47] (st) A A12 := eA12 ▸ Fx_a hC11 (z := st) (by omega) (by omega)
    refine jx_ld (pc_q := 47) (l_q := [(0, .ref 66), (1, .int (i32 (fn))), (2, .int (i32 (v)))]) (st_q := [.ref 66]) rfl (jl_aloadn rfl) ?_
    refine jr_get (pc_q := 50) (i := 74) (v := .ref 114) rfl rfl (by decide) rfl rfl ?_
    refine jx_ld (pc_q := 51) (l_q := [(0, .ref 66), (1, .int (i32 (fn))), (2, .int (i32 (v)))]) (st_q := [.ref 66, .ref 114]) rfl (jl_aloadn rfl) ?_
    refine jr_get (pc_q := 54) (i := 70) (v := .int (i32 (st))) rfl rfl (by decide) (rFv_eq (by decide) (show G 70 = st from (e_st))) rfl ?_
    refine jx_ar (pc_q := 55) (st_q := [.int (i32 (0)), .int (i32 (st)), .ref 114]) rfl rfl rfl rfl ?_
    refine jr_st (pc_q := 56) (i := 47) (m := 7000) (z := st) (y := 0) rfl (by decide) rfl (by decide) (by omega) (by omega) rfl ?_
    have hW18 : Wk G (uA A12 47 (st).toNat (0)) := Wk_a hW13 (show (-2147483648 : Int) ≤ 0 by omega) (show 0 ≤ (2147483647 : Int) by omega)
    have hF19 := Fr_a (z := 0) (k := 47) (n := (st).toNat) hF14 (by decide)
    obtain ⟨A17, eA17⟩ : ∃ q, q = uA A12 47 (st).toNat (0) := ⟨_, rfl⟩
    rw [← eA17]
    rw [← eA17] at hW18 hF19
    have q20 : A17 47 (st).toNat = 0 := by rw [eA17]; exact uA_eq
    have hC21 : Fx [44, 45, 46, 47] (st) A A17 := eA17 ▸ Fx_a hC16 (z := st) (by omega) (by omega)
    refine jx_ld (pc_q := 57) (l_q := [(0, .ref 66), (1, .int (i32 (fn))), (2, .int (i32 (v)))]) (st_q := [.ref 66]) rfl (jl_aloadn rfl) ?_
    refine jx_ar (pc_q := 58) (st_q := [.ref 66, .ref 66]) rfl rfl rfl rfl ?_
    refine jr_get (pc_q := 61) (i := 70) (v := .int (i32 (st))) rfl rfl (by decide) (rFv_eq (by decide) (show G 70 = st from (e_st))) rfl ?_
    refine jx_ar (pc_q := 62) (st_q := [.int (i32 (1)), .int (i32 (st)), .ref 66]) rfl rfl rfl rfl ?_
    refine jx_add (pc_q := 63) rfl rfl ?_
    refine jr_put (pc_q := 66) (i := 70) (z := (st + 1)) rfl rfl (by decide) rfl rfl rfl rfl rfl rfl ?_
    have hW22 : Wk (uG G 70 ((st + 1))) A17 := Wk_g hW18 (show (-2147483648 : Int) ≤ (st + 1) by omega) (show (st + 1) ≤ (2147483647 : Int) by omega)
    have hF23 := Fr_g (z := (st + 1)) (i := 70) hF19 (by decide)
    refine jx_rt (v := none) rfl rfl rfl rfl rfl rfl ?_
    exact ⟨_, _, (st + 1), lg, rfl, rfl, hW22, hF23, hC21, rfl, (e_lg), by omega, by omega, by omega, by omega, by omega, (Cd_mk (fun hC => ⟨by omega, by omega, (show A17 44 (st).toNat = fn from (congrFun (((congrFun eA17 44).trans (uA_ne (by decide))).trans (((congrFun eA12 44).trans (uA_ne (by decide))).trans ((congrFun eA7 44).trans (uA_ne (by decide))))) _).trans (q5)), (show A17 45 (st).toNat = v from (congrFun (((congrFun eA17 45).trans (uA_ne (by decide))).trans ((congrFun eA12 45).trans (uA_ne (by decide)))) _).trans (q10)), (show A17 46 (st).toNat = 0 from (congrFun ((congrFun eA17 46).trans (uA_ne (by decide))) _).trans (q15))⟩)), trivial⟩
  · have _q := h1
    refine jx_ld (pc_q := 11) (l_q := [(0, .ref 66), (1, .int (i32 (fn))), (2, .int (i32 (v)))]) (st_q := [.ref 66]) rfl (jl_aloadn rfl) ?_
    refine jx_ar (pc_q := 12) (st_q := [.int (i32 (1)), .ref 66]) rfl rfl rfl rfl ?_
    refine jr_put (pc_q := 15) (i := 79) (z := 1) rfl rfl (by decide) rfl rfl rfl (jFit_b (by omega) (by omega)) rfl rfl ?_
    have hW24 : Wk (uG G 79 (1)) A := Wk_g hW (show (0 : Int) ≤ 1 by omega) (show 1 ≤ (1 : Int) by omega)
    have hF25 := Fr_g (z := 1) (i := 79) hF0 (by decide)
    refine jx_rt (v := none) rfl rfl rfl rfl rfl rfl ?_
    exact ⟨_, _, st, 1, rfl, rfl, hW24, hF25, hC0, (e_st), rfl, by omega, by omega, by omega, by omega, by omega, (Cd_mk (fun hC => absurd hC (by omega))), trivial⟩
set_option maxRecDepth 20000 in
set_option maxHeartbeats 4000000 in
theorem c_op {X : jX} {dd : Nat} {c0 c1 : jC} {G : Nat → Int} {A : Nat → Nat → Int} {T : jH} {oo : Int} {st lg : Int} (hd : 2 ≤ dd) (hW : Wk G A) (e_st : G 70 = st) (e_lg : G 79 = lg) (h_oo : (-2147483648 : Int) ≤ oo ∧ oo ≤ 2147483647) (p_0 : 0 ≤ st) (p_1 : st ≤ 7000) : wk X dd 343 [.ref 66, .int (i32 oo)] (rV c0 c1 G A T) (fun o V_q => ∃ (G_q : Nat → Int) (A_q : Nat → Nat → Int) (st2 : Int) (lg2 : Int), V_q = rV c0 c1 G_q A_q T ∧ o = .inl none ∧ Wk G_q A_q ∧ Fr [70, 79] [44, 45, 46, 47] G A G_q A_q ∧ Fx [44, 45, 46, 47] (st) A A_q ∧ G_q 70 = st2 ∧ G_q 79 = lg2 ∧ (st ≤ st2) ∧ (st2 ≤ 7000) ∧ (lg ≤ lg2) ∧ (st + 1 - lg2 ≤ st2) ∧ (st2 ≤ st + 1) ∧ (Cd (lg2 = 0) (ST A_q (st) (st2) (15) (oo))) ∧ True) := by
  obtain ⟨d, rfl⟩ : ∃ d, dd = d + 1 := ⟨dd - 1, by omega⟩
  refine wk_of (e := jm343) rfl (Nat.le_of_ble_eq_true rfl) ?_
  show wj X d jm343 (0, [(0, .ref 66), (1, .int (i32 (oo)))], [], rV c0 c1 G A T) _
  have hF0 : Fr [70, 79] [44, 45, 46, 47] G A G A := Fr_rf
  have hC0 : Fx [44, 45, 46, 47] (st) A A := Fx_rf
  have b_st : (-2147483648 : Int) ≤ st ∧ st ≤ 2147483647 := e_st ▸ hW.1 70
  have b_lg : (0 : Int) ≤ lg ∧ lg ≤ 1 := e_lg ▸ hW.1 79
  refine jx_ld (pc_q := 1) (l_q := [(0, .ref 66), (1, .int (i32 (oo)))]) (st_q := [.ref 66]) rfl (jl_aloadn rfl) ?_
  refine jx_ar (pc_q := 3) (st_q := [.int (i32 (15)), .ref 66]) rfl rfl rfl rfl ?_
  refine jx_ld (pc_q := 4) (l_q := [(0, .ref 66), (1, .int (i32 (oo)))]) (st_q := [.int (i32 (oo)), .int (i32 (15)), .ref 66]) rfl (jl_iloadn rfl) ?_
  refine jx_vr (pc_q := 7) (as := [.int (i32 (15)), .int (i32 (oo))]) (st := []) rfl rfl rfl rfl ⟨rfl, rfl, Nat.le_of_ble_eq_true rfl⟩ rfl rfl (c_emit (dd := d) (hd := by omega) (hW := hW) (fn := 15) (v := oo) (st := st) (e_st := show G 70 = st from (e_st)) (lg := lg) (e_lg := show G 79 = lg from (e_lg))  (h_fn := ⟨(by decide), (by decide)⟩) (h_v := ⟨(Int.le_trans (by decide : (-2147483648 : Int) ≤ -2147483648) h_oo.1), (Int.le_trans h_oo.2 (by decide : (2147483647 : Int) ≤ 2147483647))⟩)  (p_0 := by omega) (p_1 := by omega)) (fun o V_q hq => ?_)
  obtain ⟨G1, A2, st2_3, lg2_4, rfl, rfl, hW5, hF6, hQ7, e8, e9, p10, p11, p12, p13, p14, p15, -⟩ := hq
  have hF17 := Fr_tr hF0 hF6 (Fr_sub (by decide)) (Fr_sub (by decide))
  have hC18 := Fx_tr hC0 hQ7 (by omega)
  have bst2_3 : (-2147483648 : Int) ≤ st2_3 ∧ st2_3 ≤ 2147483647 := e8 ▸ hW5.1 70
  have blg2_4 : (0 : Int) ≤ lg2_4 ∧ lg2_4 ≤ 1 := e9 ▸ hW5.1 79
  refine .inl ⟨rfl, ?_⟩
  refine jx_rt (v := none) rfl rfl rfl rfl rfl rfl ?_
  exact ⟨_, _, st2_3, lg2_4, rfl, rfl, hW5, hF17, hC18, (e8), (e9), by omega, by omega, by omega, by omega, by omega, (Cd_mk (fun hC => (Cd_ap p15 (by omega)))), trivial⟩
set_option maxRecDepth 20000 in
set_option maxHeartbeats 4000000 in
theorem c_label {X : jX} {dd : Nat} {c0 c1 : jC} {G : Nat → Int} {A : Nat → Nat → Int} {T : jH} {lb : Int} (hd : 1 ≤ dd) (hW : Wk G A) (e_lb : G 77 = lb) (p_0 : 0 ≤ lb) (p_1 : lb ≤ 2000000000) : wk X dd 344 [.ref 66] (rV c0 c1 G A T) (fun o V_q => ∃ (G_q : Nat → Int) (A_q : Nat → Nat → Int) (r : Int) (lb2 : Int), V_q = rV c0 c1 G_q A_q T ∧ o = .inl (some (.int (i32 r))) ∧ Wk G_q A_q ∧ Fr [77] [] G A G_q A_q ∧ ((-2147483648 : Int) ≤ r ∧ r ≤ 2147483647) ∧ G_q 77 = lb2 ∧ (lb2 = lb + 1) ∧ (1 ≤ r) ∧ (r ≤ 19999) ∧ (Cd (lb2 < 20000) (r = lb2)) ∧ True) := by
  obtain ⟨d, rfl⟩ : ∃ d, dd = d + 1 := ⟨dd - 1, by omega⟩
  refine wk_of (e := jm344) rfl (Nat.le_of_ble_eq_true rfl) ?_
  show wj X d jm344 (0, [(0, .ref 66)], [], rV c0 c1 G A T) _
  have hF0 : Fr [77] [] G A G A := Fr_rf
  have b_lb : (-2147483648 : Int) ≤ lb ∧ lb ≤ 2147483647 := e_lb ▸ hW.1 77
  refine jx_ld (pc_q := 1) (l_q := [(0, .ref 66)]) (st_q := [.ref 66]) rfl (jl_aloadn rfl) ?_
  refine jx_ar (pc_q := 2) (st_q := [.ref 66, .ref 66]) rfl rfl rfl rfl ?_
  refine jr_get (pc_q := 5) (i := 77) (v := .int (i32 (lb))) rfl rfl (by decide) (rFv_eq (by decide) (show G 77 = lb from (e_lb))) rfl ?_
  refine jx_ar (pc_q := 6) (st_q := [.int (i32 (1)), .int (i32 (lb)), .ref 66]) rfl rfl rfl rfl ?_
  refine jx_add (pc_q := 7) rfl rfl ?_
  refine jr_put (pc_q := 10) (i := 77) (z := (lb + 1)) rfl rfl (by decide) rfl rfl rfl rfl rfl rfl ?_
  have hW1 : Wk (uG G 77 ((lb + 1))) A := Wk_g hW (show (-2147483648 : Int) ≤ (lb + 1) by omega) (show (lb + 1) ≤ (2147483647 : Int) by omega)
  have hF2 := Fr_g (z := (lb + 1)) (i := 77) hF0 (by decide)
  refine jx_ld (pc_q := 11) (l_q := [(0, .ref 66)]) (st_q := [.ref 66]) rfl (jl_aloadn rfl) ?_
  refine jr_get (pc_q := 14) (i := 77) (v := .int (i32 ((lb + 1)))) rfl rfl (by decide) rfl rfl ?_
  refine jx_ar (pc_q := 17) (st_q := [.int (i32 (20000)), .int (i32 ((lb + 1)))]) rfl rfl rfl rfl ?_
  refine jx_icmp_ge (pc_q := 20) (tg := 27) rfl rfl rfl (by omega) (by omega) (by decide) (by decide) (fun h3 => ?_) (fun h3 => ?_)
  · have _q := h3
    refine jx_ar (pc_q := 30) (st_q := [.int (i32 (19999))]) rfl rfl rfl rfl ?_
    refine jx_rt (v := some (.int (i32 (19999)))) rfl rfl rfl rfl rfl rfl ?_
    exact ⟨_, _, _, (lb + 1), rfl, rfl, hW1, hF2, by omega, rfl, by omega, by omega, by omega, (Cd_mk (fun hC => (by omega))), trivial⟩
  · have _q := h3
    refine jx_ld (pc_q := 21) (l_q := [(0, .ref 66)]) (st_q := [.ref 66]) rfl (jl_aloadn rfl) ?_
    refine jr_get (pc_q := 24) (i := 77) (v := .int (i32 ((lb + 1)))) rfl rfl (by decide) rfl rfl ?_
    refine jx_go (tg := 30) rfl rfl ?_
    refine jx_rt (v := some (.int (i32 ((lb + 1))))) rfl rfl rfl rfl rfl rfl ?_
    exact ⟨_, _, _, (lb + 1), rfl, rfl, hW1, hF2, by omega, rfl, by omega, by omega, by omega, (Cd_mk (fun hC => (by omega))), trivial⟩
set_option maxRecDepth 20000 in
set_option maxHeartbeats 4000000 in
theorem c_set {X : jX} {dd : Nat} {c0 c1 : jC} {G : Nat → Int} {A : Nat → Nat → Int} {T : jH} {l : Int} {st : Int} (hd : 1 ≤ dd) (hW : Wk G A) (e_st : G 70 = st) (h_l : (-2147483648 : Int) ≤ l ∧ l ≤ 2147483647) (p_0 : 0 ≤ l) (p_1 : l ≤ 19999) : wk X dd 345 [.ref 66, .int (i32 l)] (rV c0 c1 G A T) (fun o V_q => ∃ (G_q : Nat → Int) (A_q : Nat → Nat → Int) (ls2 : Int), V_q = rV c0 c1 G_q A_q T ∧ o = .inl none ∧ Wk G_q A_q ∧ Fr [] [50] G A G_q A_q ∧ A_q 50 (l).toNat = ls2 ∧ (ls2 = st) ∧ (((A_q = uA A 50 (l).toNat (st))))) := by
  obtain ⟨d, rfl⟩ : ∃ d, dd = d + 1 := ⟨dd - 1, by omega⟩
  refine wk_of (e := jm345) rfl (Nat.le_of_ble_eq_true rfl) ?_
  show wj X d jm345 (0, [(0, .ref 66), (1, .int (i32 (l)))], [], rV c0 c1 G A T) _
  have hF0 : Fr [] [50] G A G A := Fr_rf
  have b_st : (-2147483648 : Int) ≤ st ∧ st ≤ 2147483647 := e_st ▸ hW.1 70
  refine jx_ld (pc_q := 1) (l_q := [(0, .ref 66), (1, .int (i32 (l)))]) (st_q := [.ref 66]) rfl (jl_aloadn rfl) ?_
  refine jr_get (pc_q := 4) (i := 78) (v := .ref 117) rfl rfl (by decide) rfl rfl ?_
  refine jx_ld (pc_q := 5) (l_q := [(0, .ref 66), (1, .int (i32 (l)))]) (st_q := [.int (i32 (l)), .ref 117]) rfl (jl_iloadn rfl) ?_
  refine jx_ld (pc_q := 6) (l_q := [(0, .ref 66), (1, .int (i32 (l)))]) (st_q := [.ref 66, .int (i32 (l)), .ref 117]) rfl (jl_aloadn rfl) ?_
  refine jr_get (pc_q := 9) (i := 70) (v := .int (i32 (st))) rfl rfl (by decide) (rFv_eq (by decide) (show G 70 = st from (e_st))) rfl ?_
  refine jr_st (pc_q := 10) (i := 50) (m := 20000) (z := l) (y := st) rfl (by decide) rfl (by decide) (by omega) (by omega) rfl ?_
  have hW2 : Wk G (uA A 50 (l).toNat (st)) := Wk_a hW (show (-2147483648 : Int) ≤ st by omega) (show st ≤ (2147483647 : Int) by omega)
  have hF3 := Fr_a (z := st) (k := 50) (n := (l).toNat) hF0 (by decide)
  obtain ⟨A1, eA1⟩ : ∃ q, q = uA A 50 (l).toNat (st) := ⟨_, rfl⟩
  rw [← eA1]
  rw [← eA1] at hW2 hF3
  have q4 : A1 50 (l).toNat = st := by rw [eA1]; exact uA_eq
  refine jx_rt (v := none) rfl rfl rfl rfl rfl rfl ?_
  exact ⟨_, _, st, rfl, rfl, hW2, hF3, (q4), by omega, by first | exact ((by first | rfl | exact eA1))⟩
set_option maxRecDepth 20000 in
set_option maxHeartbeats 4000000 in
theorem c_way {X : jX} {dd : Nat} {c0 c1 : jC} {G : Nat → Int} {A : Nat → Nat → Int} {T : jH} {fn to fr : Int} {st lg : Int} (hd : 2 ≤ dd) (hW : Wk G A) (e_st : G 70 = st) (e_lg : G 79 = lg) (h_fn : (-2147483648 : Int) ≤ fn ∧ fn ≤ 2147483647) (h_to : (-2147483648 : Int) ≤ to ∧ to ≤ 2147483647) (h_fr : (-2147483648 : Int) ≤ fr ∧ fr ≤ 2147483647) (p_0 : 0 ≤ st) (p_1 : st ≤ 7000) : wk X dd 346 [.ref 66, .int (i32 fn), .int (i32 to), .int (i32 fr)] (rV c0 c1 G A T) (fun o V_q => ∃ (G_q : Nat → Int) (A_q : Nat → Nat → Int) (st2 : Int) (lg2 : Int), V_q = rV c0 c1 G_q A_q T ∧ o = .inl none ∧ Wk G_q A_q ∧ Fr [70, 79] [44, 45, 46, 47] G A G_q A_q ∧ Fx [44, 45, 46, 47] (st) A A_q ∧ G_q 70 = st2 ∧ G_q 79 = lg2 ∧ (st ≤ st2) ∧ (st2 ≤ 7000) ∧ (lg ≤ lg2) ∧ (st + 1 - lg2 ≤ st2) ∧ (st2 ≤ st + 1) ∧ (Cd (lg2 = 0) (WY A_q (st) (st2) (fn) (to) (fr))) ∧ True) := by
  obtain ⟨d, rfl⟩ : ∃ d, dd = d + 1 := ⟨dd - 1, by omega⟩
  refine wk_of (e := jm346) rfl (Nat.le_of_ble_eq_true rfl) ?_
  show wj X d jm346 (0, [(0, .ref 66), (1, .int (i32 (fn))), (2, .int (i32 (to))), (3, .int (i32 (fr)))], [], rV c0 c1 G A T) _
  have hF0 : Fr [70, 79] [44, 45, 46, 47] G A G A := Fr_rf
  have hC0 : Fx [44, 45, 46, 47] (st) A A := Fx_rf
  have b_st : (-2147483648 : Int) ≤ st ∧ st ≤ 2147483647 := e_st ▸ hW.1 70
  have b_lg : (0 : Int) ≤ lg ∧ lg ≤ 1 := e_lg ▸ hW.1 79
  refine jx_ld (pc_q := 1) (l_q := [(0, .ref 66), (1, .int (i32 (fn))), (2, .int (i32 (to))), (3, .int (i32 (fr)))]) (st_q := [.ref 66]) rfl (jl_aloadn rfl) ?_
  refine jr_get (pc_q := 4) (i := 70) (v := .int (i32 (st))) rfl rfl (by decide) (rFv_eq (by decide) (show G 70 = st from (e_st))) rfl ?_
  refine jx_ld (pc_q := 6) (l_q := jSto1 [(0, .ref 66), (1, .int (i32 (fn))), (2, .int (i32 (to))), (3, .int (i32 (fr)))] 4 (.int (i32 (st)))) (st_q := []) rfl rfl ?_
  obtain ⟨L1, eL1⟩ : ∃ q, q = jSto1 [(0, .ref 66), (1, .int (i32 (fn))), (2, .int (i32 (to))), (3, .int (i32 (fr)))] 4 (.int (i32 (st))) := ⟨_, rfl⟩
  rw [← eL1]
  have gL1_0 : jGet L1 0 = some (.ref 66) := eL1 ▸ jg_ne (by decide) (rfl : jGet [(0, .ref 66), (1, .int (i32 (fn))), (2, .int (i32 (to))), (3, .int (i32 (fr)))] 0 = some (.ref 66)) rfl
  have gL1_1 : jGet L1 1 = some (.int (i32 (fn))) := eL1 ▸ jg_ne (by decide) (rfl : jGet [(0, .ref 66), (1, .int (i32 (fn))), (2, .int (i32 (to))), (3, .int (i32 (fr)))] 1 = some (.int (i32 (fn)))) rfl
  have gL1_2 : jGet L1 2 = some (.int (i32 (to))) := eL1 ▸ jg_ne (by decide) (rfl : jGet [(0, .ref 66), (1, .int (i32 (fn))), (2, .int (i32 (to))), (3, .int (i32 (fr)))] 2 = some (.int (i32 (to)))) rfl
  have gL1_3 : jGet L1 3 = some (.int (i32 (fr))) := eL1 ▸ jg_ne (by decide) (rfl : jGet [(0, .ref 66), (1, .int (i32 (fn))), (2, .int (i32 (to))), (3, .int (i32 (fr)))] 3 = some (.int (i32 (fr)))) rfl
  have gL1_4 : jGet L1 4 = some (.int (i32 (st))) := eL1 ▸ jg_eq
  refine jx_ld (pc_q := 7) (l_q := L1) (st_q := [.ref 66]) rfl (jl_aloadn gL1_0) ?_
  refine jx_ld (pc_q := 8) (l_q := L1) (st_q := [.int (i32 (fn)), .ref 66]) rfl (jl_iloadn gL1_1) ?_
  refine jx_ar (pc_q := 9) (st_q := [.int (i32 (0)), .int (i32 (fn)), .ref 66]) rfl rfl rfl rfl ?_
  refine jx_vr (pc_q := 12) (as := [.int (i32 (fn)), .int (i32 (0))]) (st := []) rfl rfl rfl rfl ⟨rfl, rfl, Nat.le_of_ble_eq_true rfl⟩ rfl rfl (c_emit (dd := d) (hd := by omega) (hW := hW) (fn := fn) (v := 0) (st := st) (e_st := show G 70 = st from (e_st)) (lg := lg) (e_lg := show G 79 = lg from (e_lg))  (h_fn := ⟨(Int.le_trans (by decide : (-2147483648 : Int) ≤ -2147483648) h_fn.1), (Int.le_trans h_fn.2 (by decide : (2147483647 : Int) ≤ 2147483647))⟩) (h_v := ⟨(by decide), (by decide)⟩)  (p_0 := by omega) (p_1 := by omega)) (fun o V_q hq => ?_)
  obtain ⟨G2, A3, st2_4, lg2_5, rfl, rfl, hW6, hF7, hQ8, e9, e10, p11, p12, p13, p14, p15, p16, -⟩ := hq
  have hF18 := Fr_tr hF0 hF7 (Fr_sub (by decide)) (Fr_sub (by decide))
  have hC19 := Fx_tr hC0 hQ8 (by omega)
  have bst2_4 : (-2147483648 : Int) ≤ st2_4 ∧ st2_4 ≤ 2147483647 := e9 ▸ hW6.1 70
  have blg2_5 : (0 : Int) ≤ lg2_5 ∧ lg2_5 ≤ 1 := e10 ▸ hW6.1 79
  refine .inl ⟨rfl, ?_⟩
  have _q : True := trivial
  refine jx_ld (pc_q := 13) (l_q := L1) (st_q := [.ref 66]) rfl (jl_aloadn gL1_0) ?_
  refine jr_get (pc_q := 16) (i := 70) (v := .int (i32 (st2_4))) rfl rfl (by decide) (rFv_eq (by decide) (show G2 70 = st2_4 from (e9))) rfl ?_
  refine jx_ld (pc_q := 18) (l_q := L1) (st_q := [.int (i32 (st)), .int (i32 (st2_4))]) rfl (jl_iload gL1_4) ?_
  refine jx_icmp_le (pc_q := 21) (tg := 37) rfl rfl rfl (Int.le_trans (by decide : (-2147483648 : Int) ≤ -2147483648) bst2_4.1) (Int.le_trans bst2_4.2 (by decide : (2147483647 : Int) ≤ 2147483647)) (Int.le_trans (by decide : (-2147483648 : Int) ≤ -2147483648) b_st.1) (Int.le_trans b_st.2 (by decide : (2147483647 : Int) ≤ 2147483647)) (fun h20 => ?_) (fun h20 => ?_)
  · have _q := h20
    refine jx_rt (v := none) rfl rfl rfl rfl rfl rfl ?_
    exact ⟨_, _, st2_4, lg2_5, rfl, rfl, hW6, hF18, hC19, (e9), (e10), by omega, by omega, by omega, by omega, by omega, (Cd_mk (fun hC => (show False by have := (Cd_ap p16 (by omega)).1; omega).elim)), trivial⟩
  · have _q := h20
    refine jx_ld (pc_q := 22) (l_q := L1) (st_q := [.ref 66]) rfl (jl_aloadn gL1_0) ?_
    refine jr_get (pc_q := 25) (i := 73) (v := .ref 113) rfl rfl (by decide) rfl rfl ?_
    refine jx_ld (pc_q := 27) (l_q := L1) (st_q := [.int (i32 (st)), .ref 113]) rfl (jl_iload gL1_4) ?_
    refine jx_ld (pc_q := 28) (l_q := L1) (st_q := [.int (i32 (to)), .int (i32 (st)), .ref 113]) rfl (jl_iloadn gL1_2) ?_
    refine jr_st (pc_q := 29) (i := 46) (m := 7000) (z := st) (y := to) rfl (by decide) rfl (by decide) (by omega) (by omega) rfl ?_
    have hW22 : Wk G2 (uA A3 46 (st).toNat (to)) := Wk_a hW6 (show (-2147483648 : Int) ≤ to by omega) (show to ≤ (2147483647 : Int) by omega)
    have hF23 := Fr_a (z := to) (k := 46) (n := (st).toNat) hF18 (by decide)
    obtain ⟨A21, eA21⟩ : ∃ q, q = uA A3 46 (st).toNat (to) := ⟨_, rfl⟩
    rw [← eA21]
    rw [← eA21] at hW22 hF23
    have q24 : A21 46 (st).toNat = to := by rw [eA21]; exact uA_eq
    have hC25 : Fx [44, 45, 46, 47] (st) A A21 := eA21 ▸ Fx_a hC19 (z := st) (by omega) (by omega)
    refine jx_ld (pc_q := 30) (l_q := L1) (st_q := [.ref 66]) rfl (jl_aloadn gL1_0) ?_
    refine jr_get (pc_q := 33) (i := 74) (v := .ref 114) rfl rfl (by decide) rfl rfl ?_
    refine jx_ld (pc_q := 35) (l_q := L1) (st_q := [.int (i32 (st)), .ref 114]) rfl (jl_iload gL1_4) ?_
    refine jx_ld (pc_q := 36) (l_q := L1) (st_q := [.int (i32 (fr)), .int (i32 (st)), .ref 114]) rfl (jl_iloadn gL1_3) ?_
    refine jr_st (pc_q := 37) (i := 47) (m := 7000) (z := st) (y := fr) rfl (by decide) rfl (by decide) (by omega) (by omega) rfl ?_
    have hW27 : Wk G2 (uA A21 47 (st).toNat (fr)) := Wk_a hW22 (show (-2147483648 : Int) ≤ fr by omega) (show fr ≤ (2147483647 : Int) by omega)
    have hF28 := Fr_a (z := fr) (k := 47) (n := (st).toNat) hF23 (by decide)
    obtain ⟨A26, eA26⟩ : ∃ q, q = uA A21 47 (st).toNat (fr) := ⟨_, rfl⟩
    rw [← eA26]
    rw [← eA26] at hW27 hF28
    have q29 : A26 47 (st).toNat = fr := by rw [eA26]; exact uA_eq
    have hC30 : Fx [44, 45, 46, 47] (st) A A26 := eA26 ▸ Fx_a hC25 (z := st) (by omega) (by omega)
    refine jx_rt (v := none) rfl rfl rfl rfl rfl rfl ?_
    exact ⟨_, _, st2_4, lg2_5, rfl, rfl, hW27, hF28, hC30, (e9), (e10), by omega, by omega, by omega, by omega, by omega, (Cd_mk (fun hC => (WY_mk (Cd_ap p16 (by omega)) rfl eA21 eA26))), trivial⟩
set_option maxRecDepth 20000 in
set_option maxHeartbeats 4000000 in
theorem c_wordOf {X : jX} {dd : Nat} {T0 : Nat → Nat → Int} {F Sn : Int → Int} {Vs : Nat → Prop} {c0 c1 : jC} {G : Nat → Int} {A : Nat → Nat → Int} {T : jH} {s : Int} {nw : Int} (hd : 1 ≤ dd) (hW : Wk G A) (e_nw : G 81 = nw) (h_s : (-2147483648 : Int) ≤ s ∧ s ≤ 2147483647) (p_0 : TA T0 A) (p_1 : FA F (nw) A) (p_2 : SA T0 Vs Sn A) (p_3 : VW T0 Vs (nw)) (p_4 : 0 ≤ nw) (p_5 : nw ≤ 39) (p_6 : 0 ≤ s) (p_7 : s ≤ 201) (p_8 : Vs (s).toNat) (p_9 : T0 7 (s).toNat ≤ 9) : wk X dd 348 [.ref 66, .int (i32 s)] (rV c0 c1 G A T) (fun o V_q => ∃ (r : Int), V_q = rV c0 c1 G A T ∧ o = .inl (some (.int (i32 r))) ∧ ((-2147483648 : Int) ≤ r ∧ r ≤ 2147483647) ∧ (r = wd T0 F nw s) ∧ True) := by
  obtain ⟨d, rfl⟩ : ∃ d, dd = d + 1 := ⟨dd - 1, by omega⟩
  refine wk_of (e := jm348) rfl (Nat.le_of_ble_eq_true rfl) ?_
  show wj X d jm348 (0, [(0, .ref 66), (1, .int (i32 (s)))], [], rV c0 c1 G A T) _
  have b_nw : (-2147483648 : Int) ≤ nw ∧ nw ≤ 2147483647 := e_nw ▸ hW.1 81
  have hWT := TA_w hW p_0
  have hwb := wd_b p_3 p_1 p_4 p_8 p_9
  have hwu : wd T0 F nw s = T0 9 (s).toNat + F (T0 10 (s).toNat) - F nw := rfl
  refine jx_ld (pc_q := 1) (l_q := [(0, .ref 66), (1, .int (i32 (s)))]) (st_q := [.ref 66]) rfl (jl_aloadn rfl) ?_
  refine jr_get (pc_q := 4) (i := 23) (v := .ref 76) rfl rfl (by decide) rfl rfl ?_
  refine jx_ld (pc_q := 5) (l_q := [(0, .ref 66), (1, .int (i32 (s)))]) (st_q := [.int (i32 (s)), .ref 76]) rfl (jl_iloadn rfl) ?_
  have b1 : (-2147483648 : Int) ≤ T0 9 (s).toNat ∧ T0 9 (s).toNat ≤ 2147483647 := hWT.2 9 _
  refine jr_ldv (pc_q := 6) (i := 9) (m := 260) (z := s) (y := T0 9 (s).toNat) rfl (by decide) rfl (by decide) (by omega) (by omega) rfl (show A 9 (s).toNat = T0 9 (s).toNat from (congrFun (p_0 9 rfl) _)) ?_
  refine jx_ld (pc_q := 7) (l_q := [(0, .ref 66), (1, .int (i32 (s)))]) (st_q := [.ref 66, .int (i32 (T0 9 (s).toNat))]) rfl (jl_aloadn rfl) ?_
  refine jr_get (pc_q := 10) (i := 80) (v := .ref 118) rfl rfl (by decide) rfl rfl ?_
  refine jx_ld (pc_q := 11) (l_q := [(0, .ref 66), (1, .int (i32 (s)))]) (st_q := [.ref 66, .ref 118, .int (i32 (T0 9 (s).toNat))]) rfl (jl_aloadn rfl) ?_
  refine jr_get (pc_q := 14) (i := 24) (v := .ref 77) rfl rfl (by decide) rfl rfl ?_
  refine jx_ld (pc_q := 15) (l_q := [(0, .ref 66), (1, .int (i32 (s)))]) (st_q := [.int (i32 (s)), .ref 77, .ref 118, .int (i32 (T0 9 (s).toNat))]) rfl (jl_iloadn rfl) ?_
  have b2 : (-2147483648 : Int) ≤ T0 10 (s).toNat ∧ T0 10 (s).toNat ≤ 2147483647 := hWT.2 10 _
  refine jr_ldv (pc_q := 16) (i := 10) (m := 260) (z := s) (y := T0 10 (s).toNat) rfl (by decide) rfl (by decide) (by omega) (by omega) rfl (show A 10 (s).toNat = T0 10 (s).toNat from (congrFun (p_0 10 rfl) _)) ?_
  have b3 : (-2147483648 : Int) ≤ A 51 (T0 10 (s).toNat).toNat ∧ A 51 (T0 10 (s).toNat).toNat ≤ 2147483647 := hW.2 51 _
  refine jr_ldv (pc_q := 17) (i := 51) (m := 40) (z := T0 10 (s).toNat) (y := A 51 (T0 10 (s).toNat).toNat) rfl (by decide) rfl (by decide) (by omega) (by omega) rfl (show A 51 (T0 10 (s).toNat).toNat = A 51 (T0 10 (s).toNat).toNat from rfl) ?_
  refine jx_add (pc_q := 18) rfl rfl ?_
  refine jx_ld (pc_q := 19) (l_q := [(0, .ref 66), (1, .int (i32 (s)))]) (st_q := [.ref 66, .int (i32 ((T0 9 (s).toNat + A 51 (T0 10 (s).toNat).toNat)))]) rfl (jl_aloadn rfl) ?_
  refine jr_get (pc_q := 22) (i := 80) (v := .ref 118) rfl rfl (by decide) rfl rfl ?_
  refine jx_ld (pc_q := 23) (l_q := [(0, .ref 66), (1, .int (i32 (s)))]) (st_q := [.ref 66, .ref 118, .int (i32 ((T0 9 (s).toNat + A 51 (T0 10 (s).toNat).toNat)))]) rfl (jl_aloadn rfl) ?_
  refine jr_get (pc_q := 26) (i := 81) (v := .int (i32 (nw))) rfl rfl (by decide) (rFv_eq (by decide) (show G 81 = nw from (e_nw))) rfl ?_
  have b4 : (-2147483648 : Int) ≤ A 51 (nw).toNat ∧ A 51 (nw).toNat ≤ 2147483647 := hW.2 51 _
  refine jr_ldv (pc_q := 27) (i := 51) (m := 40) (z := nw) (y := A 51 (nw).toNat) rfl (by decide) rfl (by decide) (by omega) (by omega) rfl (show A 51 (nw).toNat = A 51 (nw).toNat from rfl) ?_
  refine jx_sub (pc_q := 28) rfl rfl ?_
  refine jx_rt (v := some (.int (i32 (((T0 9 (s).toNat + A 51 (T0 10 (s).toNat).toNat) - A 51 (nw).toNat))))) rfl rfl rfl rfl rfl rfl ?_
  exact ⟨_, rfl, rfl, by omega, by omega, trivial⟩
def GE (X : jX) (k : Nat) : Prop := ∀ ⦃dd : Nat⦄ ⦃T0 : Nat → Nat → Int⦄ ⦃F Sn : Int → Int⦄ ⦃Vs : Nat → Prop⦄ ⦃sb : Int⦄ ⦃c0 c1 : jC⦄ ⦃G : Nat → Int⦄ ⦃A : Nat → Nat → Int⦄ ⦃T : jH⦄ ⦃e : Int⦄ ⦃lo hi : Int⦄ ⦃st lg lb nw : Int⦄ (hd : 2 * k + 6 ≤ dd) (hW : Wk G A) (e_st : G 70 = st) (e_lg : G 79 = lg) (e_lb : G 77 = lb) (e_nw : G 81 = nw) (h_e : (-2147483648 : Int) ≤ e ∧ e ≤ 2147483647) (p_0 : TA T0 A) (p_1 : FA F (nw) A) (p_2 : SA T0 Vs Sn A) (p_3 : VW T0 Vs (nw)) (p_4 : 0 ≤ nw) (p_5 : nw ≤ 39) (p_6 : 0 ≤ st) (p_7 : st ≤ 7000) (p_8 : 0 ≤ lb) (p_9 : lb + (hi - lo) + 7000 - st ≤ 1990000000) (p_10 : 0 ≤ lo) (p_11 : hi ≤ 6999) (p_12 : sb ≤ 202) (p_13 : wE T0 Vs sb (k) (e) (lo) (hi)) (p_14 : (k : Int) ≤ 30), wk X dd 350 [.ref 66, .int (i32 e)] (rV c0 c1 G A T) (fun o V_q => ∃ (G_q : Nat → Int) (A_q : Nat → Nat → Int) (st2 : Int) (lg2 : Int) (lb2 : Int), V_q = rV c0 c1 G_q A_q T ∧ o = .inl none ∧ Wk G_q A_q ∧ Fr [70, 77, 79] [44, 45, 46, 47, 50] G A G_q A_q ∧ Fx [44, 45, 46, 47] (st) A A_q ∧ G_q 70 = st2 ∧ G_q 79 = lg2 ∧ G_q 77 = lb2 ∧ (st ≤ st2) ∧ (st2 ≤ 7000) ∧ (lg ≤ lg2) ∧ (lg2 ≤ 1) ∧ (lb ≤ lb2) ∧ (Cd (lg2 = 0) (lb2 - lb ≤ st2 - st)) ∧ (lb2 - lb ≤ st2 - st + (hi - lo)) ∧ (Cd (lg2 = 0 ∧ lb2 < 19999) (Fx [50] (lb + 1) A A_q)) ∧ (Cd (lg2 = 0 ∧ lb2 < 19999) (gE T0 A_q F Sn nw (k) (e) (st) (st2) (lb) (lb2))) ∧ True)
set_option maxRecDepth 20000 in
set_option maxHeartbeats 4000000 in
theorem c_genSign {X : jX} {dd : Nat} {c0 c1 : jC} {G : Nat → Int} {A : Nat → Nat → Int} {T : jH} {oo : Int} {st lg : Int} (hd : 3 ≤ dd) (hW : Wk G A) (e_st : G 70 = st) (e_lg : G 79 = lg) (h_oo : (-2147483648 : Int) ≤ oo ∧ oo ≤ 2147483647) (p_0 : 0 ≤ st) (p_1 : st ≤ 7000) : wk X dd 352 [.ref 66, .int (i32 oo)] (rV c0 c1 G A T) (fun o V_q => ∃ (G_q : Nat → Int) (A_q : Nat → Nat → Int) (st2 : Int) (lg2 : Int), V_q = rV c0 c1 G_q A_q T ∧ o = .inl none ∧ Wk G_q A_q ∧ Fr [70, 79] [44, 45, 46, 47] G A G_q A_q ∧ Fx [44, 45, 46, 47] (st) A A_q ∧ G_q 70 = st2 ∧ G_q 79 = lg2 ∧ (st ≤ st2) ∧ (st2 ≤ 7000) ∧ (lg ≤ lg2) ∧ (Cd (lg2 = 0) (SQ A_q (sgn oo) (st) (st2))) ∧ True) := by
  obtain ⟨d, rfl⟩ : ∃ d, dd = d + 1 := ⟨dd - 1, by omega⟩
  refine wk_of (e := jm352) rfl (Nat.le_of_ble_eq_true rfl) ?_
  show wj X d jm352 (0, [(0, .ref 66), (1, .int (i32 (oo)))], [], rV c0 c1 G A T) _
  have hF0 : Fr [70, 79] [44, 45, 46, 47] G A G A := Fr_rf
  have hC0 : Fx [44, 45, 46, 47] (st) A A := Fx_rf
  have b_st : (-2147483648 : Int) ≤ st ∧ st ≤ 2147483647 := e_st ▸ hW.1 70
  have b_lg : (0 : Int) ≤ lg ∧ lg ≤ 1 := e_lg ▸ hW.1 79
  refine jx_ld (pc_q := 1) (l_q := [(0, .ref 66), (1, .int (i32 (oo)))]) (st_q := [.int (i32 (oo))]) rfl (jl_iloadn rfl) ?_
  rcases (by omega : oo = 42 ∨ oo = 43 ∨ oo = 45 ∨ oo = 47 ∨ oo = 60 ∨ oo = 61 ∨ oo = 62 ∨ oo = 92 ∨ oo = 302 ∨ oo = 303 ∨ oo = 304 ∨ oo = 305 ∨ oo = 306 ∨ oo = 307 ∨ (oo ≠ 42 ∧ oo ≠ 43 ∧ oo ≠ 45 ∧ oo ≠ 47 ∧ oo ≠ 60 ∧ oo ≠ 61 ∧ oo ≠ 62 ∧ oo ≠ 92 ∧ oo ≠ 302 ∧ oo ≠ 303 ∧ oo ≠ 304 ∧ oo ≠ 305 ∧ oo ≠ 306 ∧ oo ≠ 307)) with h1 | h1 | h1 | h1 | h1 | h1 | h1 | h1 | h1 | h1 | h1 | h1 | h1 | h1 | h1
  · refine jx_swe (z := 42) (tg := 140) h1 rfl rfl rfl rfl ?_
    have _q : True := trivial
    refine jx_ld (pc_q := 141) (l_q := [(0, .ref 66), (1, .int (i32 (oo)))]) (st_q := [.ref 66]) rfl (jl_aloadn rfl) ?_
    refine jx_ar (pc_q := 142) (st_q := [.int (i32 (3)), .ref 66]) rfl rfl rfl rfl ?_
    refine jx_vr (pc_q := 145) (as := [.int (i32 (3))]) (st := []) rfl rfl rfl rfl ⟨rfl, rfl, Nat.le_of_ble_eq_true rfl⟩ rfl rfl (c_op (dd := d) (hd := by omega) (hW := hW) (oo := 3) (st := st) (e_st := show G 70 = st from (e_st)) (lg := lg) (e_lg := show G 79 = lg from (e_lg))  (h_oo := ⟨(by decide), (by decide)⟩)  (p_0 := by omega) (p_1 := by omega)) (fun o V_q hq => ?_)
    obtain ⟨G2, A3, st2_4, lg2_5, rfl, rfl, hW6, hF7, hQ8, e9, e10, p11, p12, p13, p14, p15, p16, -⟩ := hq
    have hF18 := Fr_tr hF0 hF7 (Fr_sub (by decide)) (Fr_sub (by decide))
    have hC19 := Fx_tr hC0 hQ8 (by omega)
    have bst2_4 : (-2147483648 : Int) ≤ st2_4 ∧ st2_4 ≤ 2147483647 := e9 ▸ hW6.1 70
    have blg2_5 : (0 : Int) ≤ lg2_5 ∧ lg2_5 ≤ 1 := e10 ▸ hW6.1 79
    refine .inl ⟨rfl, ?_⟩
    refine jx_go (tg := 294) rfl rfl ?_
    refine jx_rt (v := none) rfl rfl rfl rfl rfl rfl ?_
    exact ⟨_, _, st2_4, lg2_5, rfl, rfl, hW6, hF18, hC19, (e9), (e10), by omega, by omega, by omega, (Cd_mk (fun hC => (by rw [show oo = 42 by omega]; exact (SQ_c (Cd_ap p16 (by omega)) SQ_n)))), trivial⟩
  · refine jx_swe (z := 43) (tg := 124) h1 rfl rfl rfl rfl ?_
    have _q : True := trivial
    refine jx_ld (pc_q := 125) (l_q := [(0, .ref 66), (1, .int (i32 (oo)))]) (st_q := [.ref 66]) rfl (jl_aloadn rfl) ?_
    refine jx_ar (pc_q := 126) (st_q := [.int (i32 (1)), .ref 66]) rfl rfl rfl rfl ?_
    refine jx_vr (pc_q := 129) (as := [.int (i32 (1))]) (st := []) rfl rfl rfl rfl ⟨rfl, rfl, Nat.le_of_ble_eq_true rfl⟩ rfl rfl (c_op (dd := d) (hd := by omega) (hW := hW) (oo := 1) (st := st) (e_st := show G 70 = st from (e_st)) (lg := lg) (e_lg := show G 79 = lg from (e_lg))  (h_oo := ⟨(by decide), (by decide)⟩)  (p_0 := by omega) (p_1 := by omega)) (fun o V_q hq => ?_)
    obtain ⟨G20, A21, st2_22, lg2_23, rfl, rfl, hW24, hF25, hQ26, e27, e28, p29, p30, p31, p32, p33, p34, -⟩ := hq
    have hF36 := Fr_tr hF0 hF25 (Fr_sub (by decide)) (Fr_sub (by decide))
    have hC37 := Fx_tr hC0 hQ26 (by omega)
    have bst2_22 : (-2147483648 : Int) ≤ st2_22 ∧ st2_22 ≤ 2147483647 := e27 ▸ hW24.1 70
    have blg2_23 : (0 : Int) ≤ lg2_23 ∧ lg2_23 ≤ 1 := e28 ▸ hW24.1 79
    refine .inl ⟨rfl, ?_⟩
    refine jx_go (tg := 294) rfl rfl ?_
    refine jx_rt (v := none) rfl rfl rfl rfl rfl rfl ?_
    exact ⟨_, _, st2_22, lg2_23, rfl, rfl, hW24, hF36, hC37, (e27), (e28), by omega, by omega, by omega, (Cd_mk (fun hC => (by rw [show oo = 43 by omega]; exact (SQ_c (Cd_ap p34 (by omega)) SQ_n)))), trivial⟩
  · refine jx_swe (z := 45) (tg := 132) h1 rfl rfl rfl rfl ?_
    have _q : True := trivial
    refine jx_ld (pc_q := 133) (l_q := [(0, .ref 66), (1, .int (i32 (oo)))]) (st_q := [.ref 66]) rfl (jl_aloadn rfl) ?_
    refine jx_ar (pc_q := 134) (st_q := [.int (i32 (2)), .ref 66]) rfl rfl rfl rfl ?_
    refine jx_vr (pc_q := 137) (as := [.int (i32 (2))]) (st := []) rfl rfl rfl rfl ⟨rfl, rfl, Nat.le_of_ble_eq_true rfl⟩ rfl rfl (c_op (dd := d) (hd := by omega) (hW := hW) (oo := 2) (st := st) (e_st := show G 70 = st from (e_st)) (lg := lg) (e_lg := show G 79 = lg from (e_lg))  (h_oo := ⟨(by decide), (by decide)⟩)  (p_0 := by omega) (p_1 := by omega)) (fun o V_q hq => ?_)
    obtain ⟨G38, A39, st2_40, lg2_41, rfl, rfl, hW42, hF43, hQ44, e45, e46, p47, p48, p49, p50, p51, p52, -⟩ := hq
    have hF54 := Fr_tr hF0 hF43 (Fr_sub (by decide)) (Fr_sub (by decide))
    have hC55 := Fx_tr hC0 hQ44 (by omega)
    have bst2_40 : (-2147483648 : Int) ≤ st2_40 ∧ st2_40 ≤ 2147483647 := e45 ▸ hW42.1 70
    have blg2_41 : (0 : Int) ≤ lg2_41 ∧ lg2_41 ≤ 1 := e46 ▸ hW42.1 79
    refine .inl ⟨rfl, ?_⟩
    refine jx_go (tg := 294) rfl rfl ?_
    refine jx_rt (v := none) rfl rfl rfl rfl rfl rfl ?_
    exact ⟨_, _, st2_40, lg2_41, rfl, rfl, hW42, hF54, hC55, (e45), (e46), by omega, by omega, by omega, (Cd_mk (fun hC => (by rw [show oo = 45 by omega]; exact (SQ_c (Cd_ap p52 (by omega)) SQ_n)))), trivial⟩
  · refine jx_swe (z := 47) (tg := 148) h1 rfl rfl rfl rfl ?_
    have _q : True := trivial
    refine jx_ld (pc_q := 149) (l_q := [(0, .ref 66), (1, .int (i32 (oo)))]) (st_q := [.ref 66]) rfl (jl_aloadn rfl) ?_
    refine jx_ar (pc_q := 150) (st_q := [.int (i32 (4)), .ref 66]) rfl rfl rfl rfl ?_
    refine jx_vr (pc_q := 153) (as := [.int (i32 (4))]) (st := []) rfl rfl rfl rfl ⟨rfl, rfl, Nat.le_of_ble_eq_true rfl⟩ rfl rfl (c_op (dd := d) (hd := by omega) (hW := hW) (oo := 4) (st := st) (e_st := show G 70 = st from (e_st)) (lg := lg) (e_lg := show G 79 = lg from (e_lg))  (h_oo := ⟨(by decide), (by decide)⟩)  (p_0 := by omega) (p_1 := by omega)) (fun o V_q hq => ?_)
    obtain ⟨G56, A57, st2_58, lg2_59, rfl, rfl, hW60, hF61, hQ62, e63, e64, p65, p66, p67, p68, p69, p70, -⟩ := hq
    have hF72 := Fr_tr hF0 hF61 (Fr_sub (by decide)) (Fr_sub (by decide))
    have hC73 := Fx_tr hC0 hQ62 (by omega)
    have bst2_58 : (-2147483648 : Int) ≤ st2_58 ∧ st2_58 ≤ 2147483647 := e63 ▸ hW60.1 70
    have blg2_59 : (0 : Int) ≤ lg2_59 ∧ lg2_59 ≤ 1 := e64 ▸ hW60.1 79
    refine .inl ⟨rfl, ?_⟩
    refine jx_go (tg := 294) rfl rfl ?_
    refine jx_rt (v := none) rfl rfl rfl rfl rfl rfl ?_
    exact ⟨_, _, st2_58, lg2_59, rfl, rfl, hW60, hF72, hC73, (e63), (e64), by omega, by omega, by omega, (Cd_mk (fun hC => (by rw [show oo = 47 by omega]; exact (SQ_c (Cd_ap p70 (by omega)) SQ_n)))), trivial⟩
  · refine jx_swe (z := 60) (tg := 209) h1 rfl rfl rfl rfl ?_
    have _q : True := trivial
    refine jx_ld (pc_q := 210) (l_q := [(0, .ref 66), (1, .int (i32 (oo)))]) (st_q := [.ref 66]) rfl (jl_aloadn rfl) ?_
    refine jx_ar (pc_q := 211) (st_q := [.int (i32 (0)), .ref 66]) rfl rfl rfl rfl ?_
    refine jx_vr (pc_q := 214) (as := [.int (i32 (0))]) (st := []) rfl rfl rfl rfl ⟨rfl, rfl, Nat.le_of_ble_eq_true rfl⟩ rfl rfl (c_op (dd := d) (hd := by omega) (hW := hW) (oo := 0) (st := st) (e_st := show G 70 = st from (e_st)) (lg := lg) (e_lg := show G 79 = lg from (e_lg))  (h_oo := ⟨(by decide), (by decide)⟩)  (p_0 := by omega) (p_1 := by omega)) (fun o V_q hq => ?_)
    obtain ⟨G74, A75, st2_76, lg2_77, rfl, rfl, hW78, hF79, hQ80, e81, e82, p83, p84, p85, p86, p87, p88, -⟩ := hq
    have hF90 := Fr_tr hF0 hF79 (Fr_sub (by decide)) (Fr_sub (by decide))
    have hC91 := Fx_tr hC0 hQ80 (by omega)
    have bst2_76 : (-2147483648 : Int) ≤ st2_76 ∧ st2_76 ≤ 2147483647 := e81 ▸ hW78.1 70
    have blg2_77 : (0 : Int) ≤ lg2_77 ∧ lg2_77 ≤ 1 := e82 ▸ hW78.1 79
    refine .inl ⟨rfl, ?_⟩
    refine jx_ld (pc_q := 215) (l_q := [(0, .ref 66), (1, .int (i32 (oo)))]) (st_q := [.ref 66]) rfl (jl_aloadn rfl) ?_
    refine jx_ar (pc_q := 217) (st_q := [.int (i32 (6)), .ref 66]) rfl rfl rfl rfl ?_
    refine jx_vr (pc_q := 220) (as := [.int (i32 (6))]) (st := []) rfl rfl rfl rfl ⟨rfl, rfl, Nat.le_of_ble_eq_true rfl⟩ rfl rfl (c_op (dd := d) (hd := by omega) (hW := hW78) (oo := 6) (st := st2_76) (e_st := show G74 70 = st2_76 from (e81)) (lg := lg2_77) (e_lg := show G74 79 = lg2_77 from (e82))  (h_oo := ⟨(by decide), (by decide)⟩)  (p_0 := by omega) (p_1 := by omega)) (fun o V_q hq => ?_)
    obtain ⟨G92, A93, st2_94, lg2_95, rfl, rfl, hW96, hF97, hQ98, e99, e100, p101, p102, p103, p104, p105, p106, -⟩ := hq
    have hF108 := Fr_tr hF90 hF97 (Fr_sub (by decide)) (Fr_sub (by decide))
    have hC109 := Fx_tr hC91 hQ98 (by omega)
    have bst2_94 : (-2147483648 : Int) ≤ st2_94 ∧ st2_94 ≤ 2147483647 := e99 ▸ hW96.1 70
    have blg2_95 : (0 : Int) ≤ lg2_95 ∧ lg2_95 ≤ 1 := e100 ▸ hW96.1 79
    refine .inl ⟨rfl, ?_⟩
    have sf110 : Cd (lg2_95 = 0) (ST A93 (st) (st2_76) (15) (0)) := Cd_mk (fun hC => ST_mv (Cg_fx (l0 := 0) (l1 := 0) hQ98 (Fx_f (w := 0 + 1) Fx_rf hF97 (by decide)) (by omega)) (by omega) (Cd_ap p88 (by omega)))
    refine jx_go (tg := 294) rfl rfl ?_
    refine jx_rt (v := none) rfl rfl rfl rfl rfl rfl ?_
    exact ⟨_, _, st2_94, lg2_95, rfl, rfl, hW96, hF108, hC109, (e99), (e100), by omega, by omega, by omega, (Cd_mk (fun hC => (by rw [show oo = 60 by omega]; exact (SQ_c (Cd_ap sf110 (by omega)) (SQ_c (Cd_ap p106 (by omega)) SQ_n))))), trivial⟩
  · refine jx_swe (z := 61) (tg := 260) h1 rfl rfl rfl rfl ?_
    have _q : True := trivial
    refine jx_ld (pc_q := 261) (l_q := [(0, .ref 66), (1, .int (i32 (oo)))]) (st_q := [.ref 66]) rfl (jl_aloadn rfl) ?_
    refine jx_ar (pc_q := 262) (st_q := [.int (i32 (2)), .ref 66]) rfl rfl rfl rfl ?_
    refine jx_vr (pc_q := 265) (as := [.int (i32 (2))]) (st := []) rfl rfl rfl rfl ⟨rfl, rfl, Nat.le_of_ble_eq_true rfl⟩ rfl rfl (c_op (dd := d) (hd := by omega) (hW := hW) (oo := 2) (st := st) (e_st := show G 70 = st from (e_st)) (lg := lg) (e_lg := show G 79 = lg from (e_lg))  (h_oo := ⟨(by decide), (by decide)⟩)  (p_0 := by omega) (p_1 := by omega)) (fun o V_q hq => ?_)
    obtain ⟨G111, A112, st2_113, lg2_114, rfl, rfl, hW115, hF116, hQ117, e118, e119, p120, p121, p122, p123, p124, p125, -⟩ := hq
    have hF127 := Fr_tr hF0 hF116 (Fr_sub (by decide)) (Fr_sub (by decide))
    have hC128 := Fx_tr hC0 hQ117 (by omega)
    have bst2_113 : (-2147483648 : Int) ≤ st2_113 ∧ st2_113 ≤ 2147483647 := e118 ▸ hW115.1 70
    have blg2_114 : (0 : Int) ≤ lg2_114 ∧ lg2_114 ≤ 1 := e119 ▸ hW115.1 79
    refine .inl ⟨rfl, ?_⟩
    refine jx_ld (pc_q := 266) (l_q := [(0, .ref 66), (1, .int (i32 (oo)))]) (st_q := [.ref 66]) rfl (jl_aloadn rfl) ?_
    refine jx_ar (pc_q := 268) (st_q := [.int (i32 (12)), .ref 66]) rfl rfl rfl rfl ?_
    refine jx_ar (pc_q := 269) (st_q := [.int (i32 (0)), .int (i32 (12)), .ref 66]) rfl rfl rfl rfl ?_
    refine jx_vr (pc_q := 272) (as := [.int (i32 (12)), .int (i32 (0))]) (st := []) rfl rfl rfl rfl ⟨rfl, rfl, Nat.le_of_ble_eq_true rfl⟩ rfl rfl (c_emit (dd := d) (hd := by omega) (hW := hW115) (fn := 12) (v := 0) (st := st2_113) (e_st := show G111 70 = st2_113 from (e118)) (lg := lg2_114) (e_lg := show G111 79 = lg2_114 from (e119))  (h_fn := ⟨(by decide), (by decide)⟩) (h_v := ⟨(by decide), (by decide)⟩)  (p_0 := by omega) (p_1 := by omega)) (fun o V_q hq => ?_)
    obtain ⟨G129, A130, st2_131, lg2_132, rfl, rfl, hW133, hF134, hQ135, e136, e137, p138, p139, p140, p141, p142, p143, -⟩ := hq
    have hF145 := Fr_tr hF127 hF134 (Fr_sub (by decide)) (Fr_sub (by decide))
    have hC146 := Fx_tr hC128 hQ135 (by omega)
    have bst2_131 : (-2147483648 : Int) ≤ st2_131 ∧ st2_131 ≤ 2147483647 := e136 ▸ hW133.1 70
    have blg2_132 : (0 : Int) ≤ lg2_132 ∧ lg2_132 ≤ 1 := e137 ▸ hW133.1 79
    refine .inl ⟨rfl, ?_⟩
    have sf147 : Cd (lg2_132 = 0) (ST A130 (st) (st2_113) (15) (2)) := Cd_mk (fun hC => ST_mv (Cg_fx (l0 := 0) (l1 := 0) hQ135 (Fx_f (w := 0 + 1) Fx_rf hF134 (by decide)) (by omega)) (by omega) (Cd_ap p125 (by omega)))
    refine jx_go (tg := 294) rfl rfl ?_
    refine jx_rt (v := none) rfl rfl rfl rfl rfl rfl ?_
    exact ⟨_, _, st2_131, lg2_132, rfl, rfl, hW133, hF145, hC146, (e136), (e137), by omega, by omega, by omega, (Cd_mk (fun hC => (by rw [show oo = 61 by omega]; exact (SQ_c (Cd_ap sf147 (by omega)) (SQ_c (Cd_ap p143 (by omega)) SQ_n))))), trivial⟩
  · refine jx_swe (z := 62) (tg := 200) h1 rfl rfl rfl rfl ?_
    have _q : True := trivial
    refine jx_ld (pc_q := 201) (l_q := [(0, .ref 66), (1, .int (i32 (oo)))]) (st_q := [.ref 66]) rfl (jl_aloadn rfl) ?_
    refine jx_ar (pc_q := 203) (st_q := [.int (i32 (6)), .ref 66]) rfl rfl rfl rfl ?_
    refine jx_vr (pc_q := 206) (as := [.int (i32 (6))]) (st := []) rfl rfl rfl rfl ⟨rfl, rfl, Nat.le_of_ble_eq_true rfl⟩ rfl rfl (c_op (dd := d) (hd := by omega) (hW := hW) (oo := 6) (st := st) (e_st := show G 70 = st from (e_st)) (lg := lg) (e_lg := show G 79 = lg from (e_lg))  (h_oo := ⟨(by decide), (by decide)⟩)  (p_0 := by omega) (p_1 := by omega)) (fun o V_q hq => ?_)
    obtain ⟨G148, A149, st2_150, lg2_151, rfl, rfl, hW152, hF153, hQ154, e155, e156, p157, p158, p159, p160, p161, p162, -⟩ := hq
    have hF164 := Fr_tr hF0 hF153 (Fr_sub (by decide)) (Fr_sub (by decide))
    have hC165 := Fx_tr hC0 hQ154 (by omega)
    have bst2_150 : (-2147483648 : Int) ≤ st2_150 ∧ st2_150 ≤ 2147483647 := e155 ▸ hW152.1 70
    have blg2_151 : (0 : Int) ≤ lg2_151 ∧ lg2_151 ≤ 1 := e156 ▸ hW152.1 79
    refine .inl ⟨rfl, ?_⟩
    refine jx_go (tg := 294) rfl rfl ?_
    refine jx_rt (v := none) rfl rfl rfl rfl rfl rfl ?_
    exact ⟨_, _, st2_150, lg2_151, rfl, rfl, hW152, hF164, hC165, (e155), (e156), by omega, by omega, by omega, (Cd_mk (fun hC => (by rw [show oo = 62 by omega]; exact (SQ_c (Cd_ap p162 (by omega)) SQ_n)))), trivial⟩
  · refine jx_swe (z := 92) (tg := 156) h1 rfl rfl rfl rfl ?_
    have _q : True := trivial
    refine jx_ld (pc_q := 157) (l_q := [(0, .ref 66), (1, .int (i32 (oo)))]) (st_q := [.ref 66]) rfl (jl_aloadn rfl) ?_
    refine jx_ar (pc_q := 158) (st_q := [.int (i32 (5)), .ref 66]) rfl rfl rfl rfl ?_
    refine jx_vr (pc_q := 161) (as := [.int (i32 (5))]) (st := []) rfl rfl rfl rfl ⟨rfl, rfl, Nat.le_of_ble_eq_true rfl⟩ rfl rfl (c_op (dd := d) (hd := by omega) (hW := hW) (oo := 5) (st := st) (e_st := show G 70 = st from (e_st)) (lg := lg) (e_lg := show G 79 = lg from (e_lg))  (h_oo := ⟨(by decide), (by decide)⟩)  (p_0 := by omega) (p_1 := by omega)) (fun o V_q hq => ?_)
    obtain ⟨G166, A167, st2_168, lg2_169, rfl, rfl, hW170, hF171, hQ172, e173, e174, p175, p176, p177, p178, p179, p180, -⟩ := hq
    have hF182 := Fr_tr hF0 hF171 (Fr_sub (by decide)) (Fr_sub (by decide))
    have hC183 := Fx_tr hC0 hQ172 (by omega)
    have bst2_168 : (-2147483648 : Int) ≤ st2_168 ∧ st2_168 ≤ 2147483647 := e173 ▸ hW170.1 70
    have blg2_169 : (0 : Int) ≤ lg2_169 ∧ lg2_169 ≤ 1 := e174 ▸ hW170.1 79
    refine .inl ⟨rfl, ?_⟩
    refine jx_go (tg := 294) rfl rfl ?_
    refine jx_rt (v := none) rfl rfl rfl rfl rfl rfl ?_
    exact ⟨_, _, st2_168, lg2_169, rfl, rfl, hW170, hF182, hC183, (e173), (e174), by omega, by omega, by omega, (Cd_mk (fun hC => (by rw [show oo = 92 by omega]; exact (SQ_c (Cd_ap p180 (by omega)) SQ_n)))), trivial⟩
  · refine jx_swe (z := 302) (tg := 223) h1 rfl rfl rfl rfl ?_
    have _q : True := trivial
    refine jx_ld (pc_q := 224) (l_q := [(0, .ref 66), (1, .int (i32 (oo)))]) (st_q := [.ref 66]) rfl (jl_aloadn rfl) ?_
    refine jx_ar (pc_q := 226) (st_q := [.int (i32 (6)), .ref 66]) rfl rfl rfl rfl ?_
    refine jx_vr (pc_q := 229) (as := [.int (i32 (6))]) (st := []) rfl rfl rfl rfl ⟨rfl, rfl, Nat.le_of_ble_eq_true rfl⟩ rfl rfl (c_op (dd := d) (hd := by omega) (hW := hW) (oo := 6) (st := st) (e_st := show G 70 = st from (e_st)) (lg := lg) (e_lg := show G 79 = lg from (e_lg))  (h_oo := ⟨(by decide), (by decide)⟩)  (p_0 := by omega) (p_1 := by omega)) (fun o V_q hq => ?_)
    obtain ⟨G184, A185, st2_186, lg2_187, rfl, rfl, hW188, hF189, hQ190, e191, e192, p193, p194, p195, p196, p197, p198, -⟩ := hq
    have hF200 := Fr_tr hF0 hF189 (Fr_sub (by decide)) (Fr_sub (by decide))
    have hC201 := Fx_tr hC0 hQ190 (by omega)
    have bst2_186 : (-2147483648 : Int) ≤ st2_186 ∧ st2_186 ≤ 2147483647 := e191 ▸ hW188.1 70
    have blg2_187 : (0 : Int) ≤ lg2_187 ∧ lg2_187 ≤ 1 := e192 ▸ hW188.1 79
    refine .inl ⟨rfl, ?_⟩
    refine jx_ld (pc_q := 230) (l_q := [(0, .ref 66), (1, .int (i32 (oo)))]) (st_q := [.ref 66]) rfl (jl_aloadn rfl) ?_
    refine jx_ar (pc_q := 232) (st_q := [.int (i32 (12)), .ref 66]) rfl rfl rfl rfl ?_
    refine jx_ar (pc_q := 233) (st_q := [.int (i32 (0)), .int (i32 (12)), .ref 66]) rfl rfl rfl rfl ?_
    refine jx_vr (pc_q := 236) (as := [.int (i32 (12)), .int (i32 (0))]) (st := []) rfl rfl rfl rfl ⟨rfl, rfl, Nat.le_of_ble_eq_true rfl⟩ rfl rfl (c_emit (dd := d) (hd := by omega) (hW := hW188) (fn := 12) (v := 0) (st := st2_186) (e_st := show G184 70 = st2_186 from (e191)) (lg := lg2_187) (e_lg := show G184 79 = lg2_187 from (e192))  (h_fn := ⟨(by decide), (by decide)⟩) (h_v := ⟨(by decide), (by decide)⟩)  (p_0 := by omega) (p_1 := by omega)) (fun o V_q hq => ?_)
    obtain ⟨G202, A203, st2_204, lg2_205, rfl, rfl, hW206, hF207, hQ208, e209, e210, p211, p212, p213, p214, p215, p216, -⟩ := hq
    have hF218 := Fr_tr hF200 hF207 (Fr_sub (by decide)) (Fr_sub (by decide))
    have hC219 := Fx_tr hC201 hQ208 (by omega)
    have bst2_204 : (-2147483648 : Int) ≤ st2_204 ∧ st2_204 ≤ 2147483647 := e209 ▸ hW206.1 70
    have blg2_205 : (0 : Int) ≤ lg2_205 ∧ lg2_205 ≤ 1 := e210 ▸ hW206.1 79
    refine .inl ⟨rfl, ?_⟩
    have sf220 : Cd (lg2_205 = 0) (ST A203 (st) (st2_186) (15) (6)) := Cd_mk (fun hC => ST_mv (Cg_fx (l0 := 0) (l1 := 0) hQ208 (Fx_f (w := 0 + 1) Fx_rf hF207 (by decide)) (by omega)) (by omega) (Cd_ap p198 (by omega)))
    refine jx_go (tg := 294) rfl rfl ?_
    refine jx_rt (v := none) rfl rfl rfl rfl rfl rfl ?_
    exact ⟨_, _, st2_204, lg2_205, rfl, rfl, hW206, hF218, hC219, (e209), (e210), by omega, by omega, by omega, (Cd_mk (fun hC => (by rw [show oo = 302 by omega]; exact (SQ_c (Cd_ap sf220 (by omega)) (SQ_c (Cd_ap p216 (by omega)) SQ_n))))), trivial⟩
  · refine jx_swe (z := 303) (tg := 239) h1 rfl rfl rfl rfl ?_
    have _q : True := trivial
    refine jx_ld (pc_q := 240) (l_q := [(0, .ref 66), (1, .int (i32 (oo)))]) (st_q := [.ref 66]) rfl (jl_aloadn rfl) ?_
    refine jx_ar (pc_q := 241) (st_q := [.int (i32 (0)), .ref 66]) rfl rfl rfl rfl ?_
    refine jx_vr (pc_q := 244) (as := [.int (i32 (0))]) (st := []) rfl rfl rfl rfl ⟨rfl, rfl, Nat.le_of_ble_eq_true rfl⟩ rfl rfl (c_op (dd := d) (hd := by omega) (hW := hW) (oo := 0) (st := st) (e_st := show G 70 = st from (e_st)) (lg := lg) (e_lg := show G 79 = lg from (e_lg))  (h_oo := ⟨(by decide), (by decide)⟩)  (p_0 := by omega) (p_1 := by omega)) (fun o V_q hq => ?_)
    obtain ⟨G221, A222, st2_223, lg2_224, rfl, rfl, hW225, hF226, hQ227, e228, e229, p230, p231, p232, p233, p234, p235, -⟩ := hq
    have hF237 := Fr_tr hF0 hF226 (Fr_sub (by decide)) (Fr_sub (by decide))
    have hC238 := Fx_tr hC0 hQ227 (by omega)
    have bst2_223 : (-2147483648 : Int) ≤ st2_223 ∧ st2_223 ≤ 2147483647 := e228 ▸ hW225.1 70
    have blg2_224 : (0 : Int) ≤ lg2_224 ∧ lg2_224 ≤ 1 := e229 ▸ hW225.1 79
    refine .inl ⟨rfl, ?_⟩
    refine jx_ld (pc_q := 245) (l_q := [(0, .ref 66), (1, .int (i32 (oo)))]) (st_q := [.ref 66]) rfl (jl_aloadn rfl) ?_
    refine jx_ar (pc_q := 247) (st_q := [.int (i32 (6)), .ref 66]) rfl rfl rfl rfl ?_
    refine jx_vr (pc_q := 250) (as := [.int (i32 (6))]) (st := []) rfl rfl rfl rfl ⟨rfl, rfl, Nat.le_of_ble_eq_true rfl⟩ rfl rfl (c_op (dd := d) (hd := by omega) (hW := hW225) (oo := 6) (st := st2_223) (e_st := show G221 70 = st2_223 from (e228)) (lg := lg2_224) (e_lg := show G221 79 = lg2_224 from (e229))  (h_oo := ⟨(by decide), (by decide)⟩)  (p_0 := by omega) (p_1 := by omega)) (fun o V_q hq => ?_)
    obtain ⟨G239, A240, st2_241, lg2_242, rfl, rfl, hW243, hF244, hQ245, e246, e247, p248, p249, p250, p251, p252, p253, -⟩ := hq
    have hF255 := Fr_tr hF237 hF244 (Fr_sub (by decide)) (Fr_sub (by decide))
    have hC256 := Fx_tr hC238 hQ245 (by omega)
    have bst2_241 : (-2147483648 : Int) ≤ st2_241 ∧ st2_241 ≤ 2147483647 := e246 ▸ hW243.1 70
    have blg2_242 : (0 : Int) ≤ lg2_242 ∧ lg2_242 ≤ 1 := e247 ▸ hW243.1 79
    refine .inl ⟨rfl, ?_⟩
    have sf257 : Cd (lg2_242 = 0) (ST A240 (st) (st2_223) (15) (0)) := Cd_mk (fun hC => ST_mv (Cg_fx (l0 := 0) (l1 := 0) hQ245 (Fx_f (w := 0 + 1) Fx_rf hF244 (by decide)) (by omega)) (by omega) (Cd_ap p235 (by omega)))
    refine jx_ld (pc_q := 251) (l_q := [(0, .ref 66), (1, .int (i32 (oo)))]) (st_q := [.ref 66]) rfl (jl_aloadn rfl) ?_
    refine jx_ar (pc_q := 253) (st_q := [.int (i32 (12)), .ref 66]) rfl rfl rfl rfl ?_
    refine jx_ar (pc_q := 254) (st_q := [.int (i32 (0)), .int (i32 (12)), .ref 66]) rfl rfl rfl rfl ?_
    refine jx_vr (pc_q := 257) (as := [.int (i32 (12)), .int (i32 (0))]) (st := []) rfl rfl rfl rfl ⟨rfl, rfl, Nat.le_of_ble_eq_true rfl⟩ rfl rfl (c_emit (dd := d) (hd := by omega) (hW := hW243) (fn := 12) (v := 0) (st := st2_241) (e_st := show G239 70 = st2_241 from (e246)) (lg := lg2_242) (e_lg := show G239 79 = lg2_242 from (e247))  (h_fn := ⟨(by decide), (by decide)⟩) (h_v := ⟨(by decide), (by decide)⟩)  (p_0 := by omega) (p_1 := by omega)) (fun o V_q hq => ?_)
    obtain ⟨G258, A259, st2_260, lg2_261, rfl, rfl, hW262, hF263, hQ264, e265, e266, p267, p268, p269, p270, p271, p272, -⟩ := hq
    have hF274 := Fr_tr hF255 hF263 (Fr_sub (by decide)) (Fr_sub (by decide))
    have hC275 := Fx_tr hC256 hQ264 (by omega)
    have bst2_260 : (-2147483648 : Int) ≤ st2_260 ∧ st2_260 ≤ 2147483647 := e265 ▸ hW262.1 70
    have blg2_261 : (0 : Int) ≤ lg2_261 ∧ lg2_261 ≤ 1 := e266 ▸ hW262.1 79
    refine .inl ⟨rfl, ?_⟩
    have sf276 : Cd (lg2_261 = 0) (ST A259 (st) (st2_223) (15) (0)) := Cd_mk (fun hC => ST_mv (Cg_fx (l0 := 0) (l1 := 0) hQ264 (Fx_f (w := 0 + 1) Fx_rf hF263 (by decide)) (by omega)) (by omega) (Cd_ap sf257 (by omega)))
    have sf277 : Cd (lg2_261 = 0) (ST A259 (st2_223) (st2_241) (15) (6)) := Cd_mk (fun hC => ST_mv (Cg_fx (l0 := 0) (l1 := 0) hQ264 (Fx_f (w := 0 + 1) Fx_rf hF263 (by decide)) (by omega)) (by omega) (Cd_ap p253 (by omega)))
    refine jx_go (tg := 294) rfl rfl ?_
    refine jx_rt (v := none) rfl rfl rfl rfl rfl rfl ?_
    exact ⟨_, _, st2_260, lg2_261, rfl, rfl, hW262, hF274, hC275, (e265), (e266), by omega, by omega, by omega, (Cd_mk (fun hC => (by rw [show oo = 303 by omega]; exact (SQ_c (Cd_ap sf276 (by omega)) (SQ_c (Cd_ap sf277 (by omega)) (SQ_c (Cd_ap p272 (by omega)) SQ_n)))))), trivial⟩
  · refine jx_swe (z := 304) (tg := 164) h1 rfl rfl rfl rfl ?_
    have _q : True := trivial
    refine jx_ld (pc_q := 165) (l_q := [(0, .ref 66), (1, .int (i32 (oo)))]) (st_q := [.ref 66]) rfl (jl_aloadn rfl) ?_
    refine jx_ar (pc_q := 167) (st_q := [.int (i32 (9)), .ref 66]) rfl rfl rfl rfl ?_
    refine jx_vr (pc_q := 170) (as := [.int (i32 (9))]) (st := []) rfl rfl rfl rfl ⟨rfl, rfl, Nat.le_of_ble_eq_true rfl⟩ rfl rfl (c_op (dd := d) (hd := by omega) (hW := hW) (oo := 9) (st := st) (e_st := show G 70 = st from (e_st)) (lg := lg) (e_lg := show G 79 = lg from (e_lg))  (h_oo := ⟨(by decide), (by decide)⟩)  (p_0 := by omega) (p_1 := by omega)) (fun o V_q hq => ?_)
    obtain ⟨G278, A279, st2_280, lg2_281, rfl, rfl, hW282, hF283, hQ284, e285, e286, p287, p288, p289, p290, p291, p292, -⟩ := hq
    have hF294 := Fr_tr hF0 hF283 (Fr_sub (by decide)) (Fr_sub (by decide))
    have hC295 := Fx_tr hC0 hQ284 (by omega)
    have bst2_280 : (-2147483648 : Int) ≤ st2_280 ∧ st2_280 ≤ 2147483647 := e285 ▸ hW282.1 70
    have blg2_281 : (0 : Int) ≤ lg2_281 ∧ lg2_281 ≤ 1 := e286 ▸ hW282.1 79
    refine .inl ⟨rfl, ?_⟩
    refine jx_go (tg := 294) rfl rfl ?_
    refine jx_rt (v := none) rfl rfl rfl rfl rfl rfl ?_
    exact ⟨_, _, st2_280, lg2_281, rfl, rfl, hW282, hF294, hC295, (e285), (e286), by omega, by omega, by omega, (Cd_mk (fun hC => (by rw [show oo = 304 by omega]; exact (SQ_c (Cd_ap p292 (by omega)) SQ_n)))), trivial⟩
  · refine jx_swe (z := 305) (tg := 173) h1 rfl rfl rfl rfl ?_
    have _q : True := trivial
    refine jx_ld (pc_q := 174) (l_q := [(0, .ref 66), (1, .int (i32 (oo)))]) (st_q := [.ref 66]) rfl (jl_aloadn rfl) ?_
    refine jx_ar (pc_q := 176) (st_q := [.int (i32 (10)), .ref 66]) rfl rfl rfl rfl ?_
    refine jx_vr (pc_q := 179) (as := [.int (i32 (10))]) (st := []) rfl rfl rfl rfl ⟨rfl, rfl, Nat.le_of_ble_eq_true rfl⟩ rfl rfl (c_op (dd := d) (hd := by omega) (hW := hW) (oo := 10) (st := st) (e_st := show G 70 = st from (e_st)) (lg := lg) (e_lg := show G 79 = lg from (e_lg))  (h_oo := ⟨(by decide), (by decide)⟩)  (p_0 := by omega) (p_1 := by omega)) (fun o V_q hq => ?_)
    obtain ⟨G296, A297, st2_298, lg2_299, rfl, rfl, hW300, hF301, hQ302, e303, e304, p305, p306, p307, p308, p309, p310, -⟩ := hq
    have hF312 := Fr_tr hF0 hF301 (Fr_sub (by decide)) (Fr_sub (by decide))
    have hC313 := Fx_tr hC0 hQ302 (by omega)
    have bst2_298 : (-2147483648 : Int) ≤ st2_298 ∧ st2_298 ≤ 2147483647 := e303 ▸ hW300.1 70
    have blg2_299 : (0 : Int) ≤ lg2_299 ∧ lg2_299 ≤ 1 := e304 ▸ hW300.1 79
    refine .inl ⟨rfl, ?_⟩
    refine jx_go (tg := 294) rfl rfl ?_
    refine jx_rt (v := none) rfl rfl rfl rfl rfl rfl ?_
    exact ⟨_, _, st2_298, lg2_299, rfl, rfl, hW300, hF312, hC313, (e303), (e304), by omega, by omega, by omega, (Cd_mk (fun hC => (by rw [show oo = 305 by omega]; exact (SQ_c (Cd_ap p310 (by omega)) SQ_n)))), trivial⟩
  · refine jx_swe (z := 306) (tg := 182) h1 rfl rfl rfl rfl ?_
    have _q : True := trivial
    refine jx_ld (pc_q := 183) (l_q := [(0, .ref 66), (1, .int (i32 (oo)))]) (st_q := [.ref 66]) rfl (jl_aloadn rfl) ?_
    refine jx_ar (pc_q := 185) (st_q := [.int (i32 (7)), .ref 66]) rfl rfl rfl rfl ?_
    refine jx_vr (pc_q := 188) (as := [.int (i32 (7))]) (st := []) rfl rfl rfl rfl ⟨rfl, rfl, Nat.le_of_ble_eq_true rfl⟩ rfl rfl (c_op (dd := d) (hd := by omega) (hW := hW) (oo := 7) (st := st) (e_st := show G 70 = st from (e_st)) (lg := lg) (e_lg := show G 79 = lg from (e_lg))  (h_oo := ⟨(by decide), (by decide)⟩)  (p_0 := by omega) (p_1 := by omega)) (fun o V_q hq => ?_)
    obtain ⟨G314, A315, st2_316, lg2_317, rfl, rfl, hW318, hF319, hQ320, e321, e322, p323, p324, p325, p326, p327, p328, -⟩ := hq
    have hF330 := Fr_tr hF0 hF319 (Fr_sub (by decide)) (Fr_sub (by decide))
    have hC331 := Fx_tr hC0 hQ320 (by omega)
    have bst2_316 : (-2147483648 : Int) ≤ st2_316 ∧ st2_316 ≤ 2147483647 := e321 ▸ hW318.1 70
    have blg2_317 : (0 : Int) ≤ lg2_317 ∧ lg2_317 ≤ 1 := e322 ▸ hW318.1 79
    refine .inl ⟨rfl, ?_⟩
    refine jx_go (tg := 294) rfl rfl ?_
    refine jx_rt (v := none) rfl rfl rfl rfl rfl rfl ?_
    exact ⟨_, _, st2_316, lg2_317, rfl, rfl, hW318, hF330, hC331, (e321), (e322), by omega, by omega, by omega, (Cd_mk (fun hC => (by rw [show oo = 306 by omega]; exact (SQ_c (Cd_ap p328 (by omega)) SQ_n)))), trivial⟩
  · refine jx_swe (z := 307) (tg := 191) h1 rfl rfl rfl rfl ?_
    have _q : True := trivial
    refine jx_ld (pc_q := 192) (l_q := [(0, .ref 66), (1, .int (i32 (oo)))]) (st_q := [.ref 66]) rfl (jl_aloadn rfl) ?_
    refine jx_ar (pc_q := 194) (st_q := [.int (i32 (8)), .ref 66]) rfl rfl rfl rfl ?_
    refine jx_vr (pc_q := 197) (as := [.int (i32 (8))]) (st := []) rfl rfl rfl rfl ⟨rfl, rfl, Nat.le_of_ble_eq_true rfl⟩ rfl rfl (c_op (dd := d) (hd := by omega) (hW := hW) (oo := 8) (st := st) (e_st := show G 70 = st from (e_st)) (lg := lg) (e_lg := show G 79 = lg from (e_lg))  (h_oo := ⟨(by decide), (by decide)⟩)  (p_0 := by omega) (p_1 := by omega)) (fun o V_q hq => ?_)
    obtain ⟨G332, A333, st2_334, lg2_335, rfl, rfl, hW336, hF337, hQ338, e339, e340, p341, p342, p343, p344, p345, p346, -⟩ := hq
    have hF348 := Fr_tr hF0 hF337 (Fr_sub (by decide)) (Fr_sub (by decide))
    have hC349 := Fx_tr hC0 hQ338 (by omega)
    have bst2_334 : (-2147483648 : Int) ≤ st2_334 ∧ st2_334 ≤ 2147483647 := e339 ▸ hW336.1 70
    have blg2_335 : (0 : Int) ≤ lg2_335 ∧ lg2_335 ≤ 1 := e340 ▸ hW336.1 79
    refine .inl ⟨rfl, ?_⟩
    refine jx_go (tg := 294) rfl rfl ?_
    refine jx_rt (v := none) rfl rfl rfl rfl rfl rfl ?_
    exact ⟨_, _, st2_334, lg2_335, rfl, rfl, hW336, hF348, hC349, (e339), (e340), by omega, by omega, by omega, (Cd_mk (fun hC => (by rw [show oo = 307 by omega]; exact (SQ_c (Cd_ap p346 (by omega)) SQ_n)))), trivial⟩
  · refine jx_swd (tg := 275) (by omega) (by omega) rfl (by decide) (by simp; omega) rfl ?_
    have _q : True := trivial
    refine jx_ld (pc_q := 276) (l_q := [(0, .ref 66), (1, .int (i32 (oo)))]) (st_q := [.ref 66]) rfl (jl_aloadn rfl) ?_
    refine jx_ar (pc_q := 277) (st_q := [.int (i32 (2)), .ref 66]) rfl rfl rfl rfl ?_
    refine jx_vr (pc_q := 280) (as := [.int (i32 (2))]) (st := []) rfl rfl rfl rfl ⟨rfl, rfl, Nat.le_of_ble_eq_true rfl⟩ rfl rfl (c_op (dd := d) (hd := by omega) (hW := hW) (oo := 2) (st := st) (e_st := show G 70 = st from (e_st)) (lg := lg) (e_lg := show G 79 = lg from (e_lg))  (h_oo := ⟨(by decide), (by decide)⟩)  (p_0 := by omega) (p_1 := by omega)) (fun o V_q hq => ?_)
    obtain ⟨G350, A351, st2_352, lg2_353, rfl, rfl, hW354, hF355, hQ356, e357, e358, p359, p360, p361, p362, p363, p364, -⟩ := hq
    have hF366 := Fr_tr hF0 hF355 (Fr_sub (by decide)) (Fr_sub (by decide))
    have hC367 := Fx_tr hC0 hQ356 (by omega)
    have bst2_352 : (-2147483648 : Int) ≤ st2_352 ∧ st2_352 ≤ 2147483647 := e357 ▸ hW354.1 70
    have blg2_353 : (0 : Int) ≤ lg2_353 ∧ lg2_353 ≤ 1 := e358 ▸ hW354.1 79
    refine .inl ⟨rfl, ?_⟩
    refine jx_ld (pc_q := 281) (l_q := [(0, .ref 66), (1, .int (i32 (oo)))]) (st_q := [.ref 66]) rfl (jl_aloadn rfl) ?_
    refine jx_ar (pc_q := 283) (st_q := [.int (i32 (12)), .ref 66]) rfl rfl rfl rfl ?_
    refine jx_ar (pc_q := 284) (st_q := [.int (i32 (0)), .int (i32 (12)), .ref 66]) rfl rfl rfl rfl ?_
    refine jx_vr (pc_q := 287) (as := [.int (i32 (12)), .int (i32 (0))]) (st := []) rfl rfl rfl rfl ⟨rfl, rfl, Nat.le_of_ble_eq_true rfl⟩ rfl rfl (c_emit (dd := d) (hd := by omega) (hW := hW354) (fn := 12) (v := 0) (st := st2_352) (e_st := show G350 70 = st2_352 from (e357)) (lg := lg2_353) (e_lg := show G350 79 = lg2_353 from (e358))  (h_fn := ⟨(by decide), (by decide)⟩) (h_v := ⟨(by decide), (by decide)⟩)  (p_0 := by omega) (p_1 := by omega)) (fun o V_q hq => ?_)
    obtain ⟨G368, A369, st2_370, lg2_371, rfl, rfl, hW372, hF373, hQ374, e375, e376, p377, p378, p379, p380, p381, p382, -⟩ := hq
    have hF384 := Fr_tr hF366 hF373 (Fr_sub (by decide)) (Fr_sub (by decide))
    have hC385 := Fx_tr hC367 hQ374 (by omega)
    have bst2_370 : (-2147483648 : Int) ≤ st2_370 ∧ st2_370 ≤ 2147483647 := e375 ▸ hW372.1 70
    have blg2_371 : (0 : Int) ≤ lg2_371 ∧ lg2_371 ≤ 1 := e376 ▸ hW372.1 79
    refine .inl ⟨rfl, ?_⟩
    have sf386 : Cd (lg2_371 = 0) (ST A369 (st) (st2_352) (15) (2)) := Cd_mk (fun hC => ST_mv (Cg_fx (l0 := 0) (l1 := 0) hQ374 (Fx_f (w := 0 + 1) Fx_rf hF373 (by decide)) (by omega)) (by omega) (Cd_ap p364 (by omega)))
    refine jx_ld (pc_q := 288) (l_q := [(0, .ref 66), (1, .int (i32 (oo)))]) (st_q := [.ref 66]) rfl (jl_aloadn rfl) ?_
    refine jx_ar (pc_q := 290) (st_q := [.int (i32 (12)), .ref 66]) rfl rfl rfl rfl ?_
    refine jx_ar (pc_q := 291) (st_q := [.int (i32 (0)), .int (i32 (12)), .ref 66]) rfl rfl rfl rfl ?_
    refine jx_vr (pc_q := 294) (as := [.int (i32 (12)), .int (i32 (0))]) (st := []) rfl rfl rfl rfl ⟨rfl, rfl, Nat.le_of_ble_eq_true rfl⟩ rfl rfl (c_emit (dd := d) (hd := by omega) (hW := hW372) (fn := 12) (v := 0) (st := st2_370) (e_st := show G368 70 = st2_370 from (e375)) (lg := lg2_371) (e_lg := show G368 79 = lg2_371 from (e376))  (h_fn := ⟨(by decide), (by decide)⟩) (h_v := ⟨(by decide), (by decide)⟩)  (p_0 := by omega) (p_1 := by omega)) (fun o V_q hq => ?_)
    obtain ⟨G387, A388, st2_389, lg2_390, rfl, rfl, hW391, hF392, hQ393, e394, e395, p396, p397, p398, p399, p400, p401, -⟩ := hq
    have hF403 := Fr_tr hF384 hF392 (Fr_sub (by decide)) (Fr_sub (by decide))
    have hC404 := Fx_tr hC385 hQ393 (by omega)
    have bst2_389 : (-2147483648 : Int) ≤ st2_389 ∧ st2_389 ≤ 2147483647 := e394 ▸ hW391.1 70
    have blg2_390 : (0 : Int) ≤ lg2_390 ∧ lg2_390 ≤ 1 := e395 ▸ hW391.1 79
    refine .inl ⟨rfl, ?_⟩
    have sf405 : Cd (lg2_390 = 0) (ST A388 (st) (st2_352) (15) (2)) := Cd_mk (fun hC => ST_mv (Cg_fx (l0 := 0) (l1 := 0) hQ393 (Fx_f (w := 0 + 1) Fx_rf hF392 (by decide)) (by omega)) (by omega) (Cd_ap sf386 (by omega)))
    have sf406 : Cd (lg2_390 = 0) (ST A388 (st2_352) (st2_370) (12) (0)) := Cd_mk (fun hC => ST_mv (Cg_fx (l0 := 0) (l1 := 0) hQ393 (Fx_f (w := 0 + 1) Fx_rf hF392 (by decide)) (by omega)) (by omega) (Cd_ap p382 (by omega)))
    refine jx_rt (v := none) rfl rfl rfl rfl rfl rfl ?_
    exact ⟨_, _, st2_389, lg2_390, rfl, rfl, hW391, hF403, hC404, (e394), (e395), by omega, by omega, by omega, (Cd_mk (fun hC => (by unfold sgn; rw [if_neg (show ¬ (oo = 43) by omega), if_neg (show ¬ (oo = 45) by omega), if_neg (show ¬ (oo = 42) by omega), if_neg (show ¬ (oo = 47) by omega), if_neg (show ¬ (oo = 92) by omega), if_neg (show ¬ (oo = 304) by omega), if_neg (show ¬ (oo = 305) by omega), if_neg (show ¬ (oo = 306) by omega), if_neg (show ¬ (oo = 307) by omega), if_neg (show ¬ (oo = 62) by omega), if_neg (show ¬ (oo = 60) by omega), if_neg (show ¬ (oo = 302) by omega), if_neg (show ¬ (oo = 303) by omega), if_neg (show ¬ (oo = 61) by omega)]; exact (SQ_c (Cd_ap sf405 (by omega)) (SQ_c (Cd_ap sf406 (by omega)) (SQ_c (Cd_ap p401 (by omega)) SQ_n)))))), trivial⟩
