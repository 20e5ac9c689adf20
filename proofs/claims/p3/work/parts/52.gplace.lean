/-- a place of the code, brought to A: the step of the label l, from behind here -/
def PL (C : Nat → Nat → Int) (k k_q l l0 l1 : Int) : Prop := ∃ a b : Int, WY C k a 4 l b ∧ ST C a k_q 15 13 ∧ 0 < b ∧ l0 < b ∧ b ≤ l1 ∧ C 50 b.toNat = k_q
theorem PL_le {C : Nat → Nat → Int} {k k_q l l0 l1 : Int} (h : PL C k k_q l l0 l1) : k ≤ k_q := by
  obtain ⟨a, b, h1, h2, _⟩ := h
  have := h1.1
  have := ST_le h2
  omega
theorem PL_mv {K l0 l1 k k_q l : Int} {C C_q : Nat → Nat → Int} (g : Cg K l0 l1 C C_q) (hk : k_q ≤ K) (h : PL C k k_q l l0 l1) : PL C_q k k_q l l0 l1 := by
  obtain ⟨a, b, h1, h2, h3, h4, h5, h6⟩ := h
  have := ST_le h2
  exact ⟨a, b, WY_mv g (by omega) h1, ST_mv g hk h2, h3, h4, h5, by rw [g.2 b.toNat (by omega) (by omega)]; exact h6⟩
theorem PL_mk {C : Nat → Nat → Int} {k a k_q l b l0 l1 : Int} (h1 : WY C k a 4 l b) (h2 : ST C a k_q 15 13) (h3 : 0 < b) (h4 : l0 < b) (h5 : b ≤ l1) (h6 : C 50 b.toNat = k_q) : PL C k k_q l l0 l1 := ⟨a, b, h1, h2, h3, h4, h5, h6⟩

set_option maxRecDepth 20000 in
set_option maxHeartbeats 4000000 in
theorem c_place {X : jX} {dd : Nat} {c0 c1 : jC} {G : Nat → Int} {A : Nat → Nat → Int} {T : jH} {to : Int} {st lg lb : Int} (hd : 3 ≤ dd) (hW : Wk G A) (e_st : G 70 = st) (e_lg : G 79 = lg) (e_lb : G 77 = lb) (h_to : (-2147483648 : Int) ≤ to ∧ to ≤ 2147483647) (p_0 : 0 ≤ st) (p_1 : st ≤ 7000) (p_2 : 0 ≤ lb) (p_3 : lb ≤ 1990000000) : wk X dd 347 [.ref 66, .int (i32 to)] (rV c0 c1 G A T) (fun o V_q => ∃ (G_q : Nat → Int) (A_q : Nat → Nat → Int) (st2 : Int) (lg2 : Int) (lb2 : Int), V_q = rV c0 c1 G_q A_q T ∧ o = .inl none ∧ Wk G_q A_q ∧ Fr [70, 77, 79] [44, 45, 46, 47, 50] G A G_q A_q ∧ Fx [44, 45, 46, 47] (st) A A_q ∧ G_q 70 = st2 ∧ G_q 79 = lg2 ∧ G_q 77 = lb2 ∧ (st ≤ st2) ∧ (st2 ≤ 7000) ∧ (st2 ≤ st + 2) ∧ (st + 2 - 2 * lg2 ≤ st2) ∧ (lg ≤ lg2) ∧ (lb2 = lb + 1) ∧ (Cd (lg2 = 0 ∧ lb2 < 19999) (Fx [50] (lb + 1) A A_q)) ∧ (Cd (lg2 = 0 ∧ lb2 < 19999) (PL A_q (st) (st2) (to) (lb) (lb2))) ∧ True) := by
  obtain ⟨d, rfl⟩ : ∃ d, dd = d + 1 := ⟨dd - 1, by omega⟩
  refine wk_of (e := jm347) rfl (Nat.le_of_ble_eq_true rfl) ?_
  show wj X d jm347 (0, [(0, .ref 66), (1, .int (i32 (to)))], [], rV c0 c1 G A T) _
  have hF0 : Fr [70, 77, 79] [44, 45, 46, 47, 50] G A G A := Fr_rf
  have hC0 : Fx [44, 45, 46, 47] (st) A A := Fx_rf
  have b_st : (-2147483648 : Int) ≤ st ∧ st ≤ 2147483647 := e_st ▸ hW.1 70
  have b_lg : (0 : Int) ≤ lg ∧ lg ≤ 1 := e_lg ▸ hW.1 79
  have b_lb : (-2147483648 : Int) ≤ lb ∧ lb ≤ 2147483647 := e_lb ▸ hW.1 77
  have hBo0 : Cd (lg = 0 ∧ lb < 19999) (Fx [50] (lb + 1) A A) := Cd_mk (fun _ => Fx_rf)
  refine jx_ld (pc_q := 1) (l_q := [(0, .ref 66), (1, .int (i32 (to)))]) (st_q := [.ref 66]) rfl (jl_aloadn rfl) ?_
  refine jx_vr (pc_q := 4) (as := []) (st := []) rfl rfl rfl rfl ⟨rfl, rfl, Nat.le_of_ble_eq_true rfl⟩ rfl rfl (c_label (dd := d) (hd := by omega) (hW := hW)  (lb := lb) (e_lb := show G 77 = lb from (e_lb))    (p_0 := by omega) (p_1 := by omega)) (fun o V_q hq => ?_)
  obtain ⟨G1, A2, r3, lb2_4, rfl, rfl, hW5, hF6, b7, e8, p9, p10, p11, p12, -⟩ := hq
  have hF14 := Fr_tr hF0 hF6 (Fr_sub (by decide)) (Fr_sub (by decide))
  have hC15 := Fx_f hC0 hF6 (by decide)
  have blb2_4 : (-2147483648 : Int) ≤ lb2_4 ∧ lb2_4 ≤ 2147483647 := e8 ▸ hW5.1 77
  refine .inr ⟨_, rfl, ?_⟩
  have hBo16 : Cd (lg = 0 ∧ lb2_4 < 19999) (Fx [50] (lb + 1) A A2) := Cd_mk (fun hC => Fx_f (Cd_ap hBo0 (by omega)) hF6 (by decide))
  have _q : True := trivial
  refine jx_ld (pc_q := 5) (l_q := jSto1 [(0, .ref 66), (1, .int (i32 (to)))] 2 (.int (i32 (r3)))) (st_q := []) rfl rfl ?_
  obtain ⟨L17, eL17⟩ : ∃ q, q = jSto1 [(0, .ref 66), (1, .int (i32 (to)))] 2 (.int (i32 (r3))) := ⟨_, rfl⟩
  rw [← eL17]
  have gL17_0 : jGet L17 0 = some (.ref 66) := eL17 ▸ jg_ne (by decide) (rfl : jGet [(0, .ref 66), (1, .int (i32 (to)))] 0 = some (.ref 66)) rfl
  have gL17_1 : jGet L17 1 = some (.int (i32 (to))) := eL17 ▸ jg_ne (by decide) (rfl : jGet [(0, .ref 66), (1, .int (i32 (to)))] 1 = some (.int (i32 (to)))) rfl
  have gL17_2 : jGet L17 2 = some (.int (i32 (r3))) := eL17 ▸ jg_eq
  refine jx_ld (pc_q := 6) (l_q := L17) (st_q := [.ref 66]) rfl (jl_aloadn gL17_0) ?_
  refine jx_ar (pc_q := 7) (st_q := [.int (i32 (4)), .ref 66]) rfl rfl rfl rfl ?_
  refine jx_ld (pc_q := 8) (l_q := L17) (st_q := [.int (i32 (to)), .int (i32 (4)), .ref 66]) rfl (jl_iloadn gL17_1) ?_
  refine jx_ld (pc_q := 9) (l_q := L17) (st_q := [.int (i32 (r3)), .int (i32 (to)), .int (i32 (4)), .ref 66]) rfl (jl_iloadn gL17_2) ?_
  refine jx_vr (pc_q := 12) (as := [.int (i32 (4)), .int (i32 (to)), .int (i32 (r3))]) (st := []) rfl rfl rfl rfl ⟨rfl, rfl, Nat.le_of_ble_eq_true rfl⟩ rfl rfl (c_way (dd := d) (hd := by omega) (hW := hW5) (fn := 4) (to := to) (fr := r3) (st := st) (e_st := show G1 70 = st from ((hF6.1 70 rfl).trans (e_st))) (lg := lg) (e_lg := show G1 79 = lg from ((hF6.1 79 rfl).trans (e_lg)))  (h_fn := ⟨(by decide), (by decide)⟩) (h_to := ⟨(Int.le_trans (by decide : (-2147483648 : Int) ≤ -2147483648) h_to.1), (Int.le_trans h_to.2 (by decide : (2147483647 : Int) ≤ 2147483647))⟩) (h_fr := ⟨(Int.le_trans (by decide : (-2147483648 : Int) ≤ -2147483648) b7.1), (Int.le_trans b7.2 (by decide : (2147483647 : Int) ≤ 2147483647))⟩)  (p_0 := by omega) (p_1 := by omega)) (fun o V_q hq => ?_)
  obtain ⟨G18, A19, st2_20, lg2_21, rfl, rfl, hW22, hF23, hQ24, e25, e26, p27, p28, p29, p30, p31, p32, -⟩ := hq
  have hF34 := Fr_tr hF14 hF23 (Fr_sub (by decide)) (Fr_sub (by decide))
  have hC35 := Fx_tr hC15 hQ24 (by omega)
  have bst2_20 : (-2147483648 : Int) ≤ st2_20 ∧ st2_20 ≤ 2147483647 := e25 ▸ hW22.1 70
  have blg2_21 : (0 : Int) ≤ lg2_21 ∧ lg2_21 ≤ 1 := e26 ▸ hW22.1 79
  refine .inl ⟨rfl, ?_⟩
  have hBo36 : Cd (lg2_21 = 0 ∧ lb2_4 < 19999) (Fx [50] (lb + 1) A A19) := Cd_mk (fun hC => Fx_f (Cd_ap hBo16 (by omega)) hF23 (by decide))
  refine jx_ld (pc_q := 13) (l_q := L17) (st_q := [.ref 66]) rfl (jl_aloadn gL17_0) ?_
  refine jx_ar (pc_q := 15) (st_q := [.int (i32 (13)), .ref 66]) rfl rfl rfl rfl ?_
  refine jx_vr (pc_q := 18) (as := [.int (i32 (13))]) (st := []) rfl rfl rfl rfl ⟨rfl, rfl, Nat.le_of_ble_eq_true rfl⟩ rfl rfl (c_op (dd := d) (hd := by omega) (hW := hW22) (oo := 13) (st := st2_20) (e_st := show G18 70 = st2_20 from (e25)) (lg := lg2_21) (e_lg := show G18 79 = lg2_21 from (e26))  (h_oo := ⟨(by decide), (by decide)⟩)  (p_0 := by omega) (p_1 := by omega)) (fun o V_q hq => ?_)
  obtain ⟨G37, A38, st2_39, lg2_40, rfl, rfl, hW41, hF42, hQ43, e44, e45, p46, p47, p48, p49, p50, p51, -⟩ := hq
  have hF53 := Fr_tr hF34 hF42 (Fr_sub (by decide)) (Fr_sub (by decide))
  have hC54 := Fx_tr hC35 hQ43 (by omega)
  have bst2_39 : (-2147483648 : Int) ≤ st2_39 ∧ st2_39 ≤ 2147483647 := e44 ▸ hW41.1 70
  have blg2_40 : (0 : Int) ≤ lg2_40 ∧ lg2_40 ≤ 1 := e45 ▸ hW41.1 79
  refine .inl ⟨rfl, ?_⟩
  have sf55 : Cd (lg2_40 = 0 ∧ lb2_4 < 19999) (WY A38 (st) (st2_20) (4) (to) (r3)) := Cd_mk (fun hC => WY_mv (Cg_fx (l0 := 0) (l1 := 0) hQ43 (Fx_f (w := 0 + 1) Fx_rf hF42 (by decide)) (by omega)) (by omega) (Cd_ap p32 (by omega)))
  have hBo56 : Cd (lg2_40 = 0 ∧ lb2_4 < 19999) (Fx [50] (lb + 1) A A38) := Cd_mk (fun hC => Fx_f (Cd_ap hBo36 (by omega)) hF42 (by decide))
  refine jx_ld (pc_q := 19) (l_q := L17) (st_q := [.ref 66]) rfl (jl_aloadn gL17_0) ?_
  refine jx_ld (pc_q := 20) (l_q := L17) (st_q := [.int (i32 (r3)), .ref 66]) rfl (jl_iloadn gL17_2) ?_
  refine jx_vr (pc_q := 23) (as := [.int (i32 (r3))]) (st := []) rfl rfl rfl rfl ⟨rfl, rfl, Nat.le_of_ble_eq_true rfl⟩ rfl rfl (c_set (dd := d) (hd := by omega) (hW := hW41) (l := r3) (st := st2_39) (e_st := show G37 70 = st2_39 from (e44))  (h_l := ⟨(Int.le_trans (by decide : (-2147483648 : Int) ≤ -2147483648) b7.1), (Int.le_trans b7.2 (by decide : (2147483647 : Int) ≤ 2147483647))⟩)  (p_0 := by omega) (p_1 := by omega)) (fun o V_q hq => ?_)
  obtain ⟨G57, A58, ls2_59, rfl, rfl, hW60, hF61, e62, p63, q64⟩ := hq
  have hF65 := Fr_tr hF53 hF61 (Fr_sub (by decide)) (Fr_sub (by decide))
  have hC66 := Fx_f hC54 hF61 (by decide)
  have bls2_59 : (-2147483648 : Int) ≤ ls2_59 ∧ ls2_59 ≤ 2147483647 := e62 ▸ hW60.2 50 _
  refine .inl ⟨rfl, ?_⟩
  have a67 := q64
  have sf68 : Cd (lg2_40 = 0 ∧ lb2_4 < 19999) (WY A58 (st) (st2_20) (4) (to) (r3)) := Cd_mk (fun hC => WY_mv (Cg_set (K := st2_20) (l0 := r3) (l1 := r3) a67 (by omega) (by omega)) (Int.le_refl _) (Cd_ap sf55 (by omega)))
  have sf69 : Cd (lg2_40 = 0 ∧ lb2_4 < 19999) (ST A58 (st2_20) (st2_39) (15) (13)) := Cd_mk (fun hC => ST_mv (Cg_set (K := st2_39) (l0 := r3) (l1 := r3) a67 (by omega) (by omega)) (Int.le_refl _) (Cd_ap p51 (by omega)))
  have hBo70 : Cd (lg2_40 = 0 ∧ lb2_4 < 19999) (Fx [50] (lb + 1) A A58) := Cd_mk (fun hC => Fx_u a67 (Cd_ap hBo56 (by omega)) (by omega) (by have hr := Cd_ap p12 (by omega); omega))
  refine jx_rt (v := none) rfl rfl rfl rfl rfl rfl ?_
  exact ⟨_, _, st2_39, lg2_40, lb2_4, rfl, rfl, hW60, hF65, hC66, ((hF61.1 70 rfl).trans (e44)), ((hF61.1 79 rfl).trans (e45)), ((hF61.1 77 rfl).trans ((hF42.1 77 rfl).trans ((hF23.1 77 rfl).trans (e8)))), by omega, by omega, by omega, by omega, by omega, by omega, (Cd_mk (fun hC => Cd_ap hBo70 (by omega))), (Cd_mk (fun hC => (PL_mk (Cd_ap sf68 (by omega)) (Cd_ap sf69 (by omega)) (by omega) (by have hr := Cd_ap p12 (by omega); omega) (by have hr := Cd_ap p12 (by omega); omega) ((show A58 50 (r3).toNat = ls2_59 from (e62)).trans (by omega))))), trivial⟩
