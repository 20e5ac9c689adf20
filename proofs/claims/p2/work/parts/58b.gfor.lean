def GN (X : jX) (k : Nat) : Prop := ∀ ⦃dd : Nat⦄ ⦃T0 : Nat → Nat → Int⦄ ⦃Q F Sn : Int → Int⦄ ⦃Vs : Nat → Prop⦄ ⦃sb pb : Int⦄ ⦃c0 c1 : jC⦄ ⦃G : Nat → Int⦄ ⦃A : Nat → Nat → Int⦄ ⦃T : jH⦄ ⦃p : Int⦄ ⦃lo hi s0 s1 fr z D : Int⦄ ⦃st lg lb nw al fw : Int⦄ (hd : 2 * k + 62 ≤ dd) (hW : Wk G A) (e_st : G 70 = st) (e_lg : G 79 = lg) (e_lb : G 77 = lb) (e_nw : G 81 = nw) (e_al : G 89 = al) (e_fw : A 51 (nw).toNat = fw) (h_p : (-2147483648 : Int) ≤ p ∧ p ≤ 2147483647) (p_0 : TA T0 A) (p_1 : FA F (nw) A) (p_2 : SA T0 Vs Sn A) (p_3 : VW T0 Vs (nw)) (p_4 : 0 ≤ nw) (p_5 : nw + (k : Int) ≤ 38) (p_6 : 0 ≤ al) (p_7 : al + (k : Int) ≤ 38) (p_8 : 0 ≤ st) (p_9 : st ≤ 7000) (p_10 : 0 ≤ lb) (p_11 : lb + 200000 * (hi - lo) + 7000 - st ≤ 1900000000) (p_12 : hi ≤ 6999) (p_13 : sb ≤ 202) (p_14 : 0 ≤ lo) (p_15 : 0 ≤ s0) (p_16 : s1 ≤ sb) (p_17 : wP T0 sb pb (k) (Vs) (p) (lo) (hi) (s0) (s1)) (p_18 : VB (Vs) (s0)) (p_19 : lP T0 (k) (p) (fr) (nw) (z) (D)) (p_20 : 1 ≤ fr) (p_21 : z ≤ 4000) (p_22 : 0 ≤ D) (p_23 : D ≤ 4000) (p_24 : -4000 ≤ fw - D) (p_25 : fw ≤ 0) (p_26 : pb ≤ 24) (p_27 : PV T0 pb) (p_28 : PA Q pb A), wk X dd 353 [.ref 66, .int (i32 p)] (rV c0 c1 G A T) (fun o V' => ∃ (G' : Nat → Int) (A' : Nat → Nat → Int) (st2 : Int) (lg2 : Int) (lb2 : Int) (nw2 : Int) (al2 : Int) (fw2 : Int), V' = rV c0 c1 G' A' T ∧ o = .inl none ∧ Wk G' A' ∧ Fr [70, 77, 79, 81, 89] [13, 44, 45, 46, 47, 50, 51, 56, 57, 58] G A G' A' ∧ Fx [44, 45, 46, 47] (st) A A' ∧ Fx [58] (8 * al) A A' ∧ Fx [56, 57] (8 * nw) A A' ∧ G' 70 = st2 ∧ G' 79 = lg2 ∧ G' 77 = lb2 ∧ G' 81 = nw2 ∧ G' 89 = al2 ∧ A' 51 (nw).toNat = fw2 ∧ (st ≤ st2) ∧ (st2 ≤ 7000) ∧ (lg ≤ lg2) ∧ (lg2 ≤ 1) ∧ (lb ≤ lb2) ∧ (Cd (lg2 = 0) (lb2 - lb ≤ st2 - st)) ∧ (lb2 - lb ≤ st2 - st + 200000 * (hi - lo)) ∧ (Cd (lg2 = 0 ∧ lb2 < 19999) (Fx [50] (lb + 1) A A')) ∧ (nw2 = nw) ∧ (al2 = al) ∧ (fw2 = fw) ∧ (FA F (nw) A') ∧ (SA T0 Vs Sn A') ∧ (Cd (lg2 = 0 ∧ lb2 < 19999) (gP T0 A' Q (k) (F) (Sn) (nw) (p) (st) (st2) (lb) (lb2))) ∧ True)
set_option maxRecDepth 20000 in
set_option maxHeartbeats 4000000 in
theorem c_genFor {X : jX} {k : Nat} (hN : GN X k) {dd : Nat} {T0 : Nat → Nat → Int} {Q F Sn : Int → Int} {Vs : Nat → Prop} {sb pb : Int} {c0 c1 : jC} {G : Nat → Int} {A : Nat → Nat → Int} {T : jH} {n : Int} {hi a7 b7 s0 s1 fr z D : Int} {st lg lb nw al fw : Int} (hd : 2 * k + 63 ≤ dd) (hW : Wk G A) (e_st : G 70 = st) (e_lg : G 79 = lg) (e_lb : G 77 = lb) (e_nw : G 81 = nw) (e_al : G 89 = al) (e_fw : A 51 (nw).toNat = fw) (h_n : (-2147483648 : Int) ≤ n ∧ n ≤ 2147483647) (p_0 : TA T0 A) (p_1 : FA F (nw) A) (p_2 : SA T0 Vs Sn A) (p_3 : VW T0 Vs (nw)) (p_4 : 0 ≤ nw) (p_5 : nw + (k : Int) ≤ 38) (p_6 : 0 ≤ al) (p_7 : al + (k : Int) ≤ 38) (p_8 : 0 ≤ st) (p_9 : st ≤ 7000) (p_10 : 0 ≤ lb) (p_11 : lb + 200000 * (hi - n) + 7000 - st ≤ 1900000000) (p_12 : hi ≤ 6999) (p_13 : sb ≤ 202) (p_14 : 0 ≤ n) (p_15 : n < hi) (p_16 : 0 ≤ T0 17 (n).toNat) (p_17 : T0 17 (n).toNat + 1 = s0) (p_18 : s0 ≤ s1) (p_19 : s1 ≤ sb) (p_20 : n + 1 ≤ a7) (p_21 : a7 ≤ b7) (p_22 : b7 ≤ hi) (p_23 : wE T0 Vs sb (20) (T0 19 (n).toNat) (n + 1) (a7)) (p_24 : wE T0 Vs sb (20) (T0 20 (n).toNat) (a7) (b7)) (p_25 : wP T0 sb pb (k) (Vu Vs (T0 17 (n).toNat)) (T0 21 (n).toNat) (b7) (hi) (s0) (s1)) (p_26 : VB (Vs) (T0 17 (n).toNat)) (p_27 : lP T0 (k) (T0 21 (n).toNat) (fr) (nw) (z) (D)) (p_28 : T0 7 (T0 17 (n).toNat).toNat = 9) (p_29 : 0 ≤ T0 9 (T0 17 (n).toNat).toNat) (p_30 : T0 9 (T0 17 (n).toNat).toNat + 2 ≤ 4000) (p_31 : T0 10 (T0 17 (n).toNat).toNat = nw) (p_32 : 1 ≤ fr) (p_33 : z ≤ 4000) (p_34 : 0 ≤ D) (p_35 : D ≤ 4000) (p_36 : -4000 ≤ fw - D) (p_37 : fw ≤ 0) (p_38 : pb ≤ 24) (p_39 : PV T0 pb) (p_40 : PA Q pb A) : wk X dd 356 [.ref 66, .int (i32 n)] (rV c0 c1 G A T) (fun o V' => ∃ (G' : Nat → Int) (A' : Nat → Nat → Int) (st2 : Int) (lg2 : Int) (lb2 : Int) (nw2 : Int) (al2 : Int) (fw2 : Int), V' = rV c0 c1 G' A' T ∧ o = .inl none ∧ Wk G' A' ∧ Fr [70, 77, 79, 81, 89] [13, 44, 45, 46, 47, 50, 51, 56, 57, 58] G A G' A' ∧ Fx [44, 45, 46, 47] (st) A A' ∧ Fx [58] (8 * al) A A' ∧ Fx [56, 57] (8 * nw) A A' ∧ G' 70 = st2 ∧ G' 79 = lg2 ∧ G' 77 = lb2 ∧ G' 81 = nw2 ∧ G' 89 = al2 ∧ A' 51 (nw).toNat = fw2 ∧ (st ≤ st2) ∧ (st2 ≤ 7000) ∧ (lg ≤ lg2) ∧ (lg2 ≤ 1) ∧ (lb ≤ lb2) ∧ (Cd (lg2 = 0) (lb2 - lb ≤ st2 - st)) ∧ (lb2 - lb ≤ st2 - st + 200000 * (hi - n)) ∧ (Cd (lg2 = 0 ∧ lb2 < 19999) (Fx [50] (lb + 1) A A')) ∧ (nw2 = nw) ∧ (al2 = al) ∧ (fw2 = fw) ∧ (FA F (nw) A') ∧ (SA T0 Vs Sn A') ∧ (Cd (lg2 = 0 ∧ lb2 < 19999) (gFo T0 A' F Sn nw (gP T0 A' Q k F Sn nw) (n) (st) (st2) (lb) (lb2))) ∧ True) := by
  obtain ⟨d, rfl⟩ : ∃ d, dd = d + 1 := ⟨dd - 1, by omega⟩
  refine wk_of (e := jm356) rfl (Nat.le_of_ble_eq_true rfl) ?_
  show wj X d jm356 (0, [(0, .ref 66), (1, .int (i32 (n)))], [], rV c0 c1 G A T) _
  have hF0 : Fr [70, 77, 79, 81, 89] [13, 44, 45, 46, 47, 50, 51, 56, 57, 58] G A G A := Fr_rf
  have hC0 : Fx [44, 45, 46, 47] (st) A A := Fx_rf
  have hAl0 : Fx [58] (8 * al) A A := Fx_rf
  have hBp0 : Fx [56, 57] (8 * nw) A A := Fx_rf
  have b_st : (-2147483648 : Int) ≤ st ∧ st ≤ 2147483647 := e_st ▸ hW.1 70
  have b_lg : (0 : Int) ≤ lg ∧ lg ≤ 1 := e_lg ▸ hW.1 79
  have b_lb : (-2147483648 : Int) ≤ lb ∧ lb ≤ 2147483647 := e_lb ▸ hW.1 77
  have b_nw : (-2147483648 : Int) ≤ nw ∧ nw ≤ 2147483647 := e_nw ▸ hW.1 81
  have b_al : (-2147483648 : Int) ≤ al ∧ al ≤ 2147483647 := e_al ▸ hW.1 89
  have b_fw : (-2147483648 : Int) ≤ fw ∧ fw ≤ 2147483647 := e_fw ▸ hW.2 51 _
  have hWT := TA_w hW p_0
  have hBo0 : Cd (lg = 0 ∧ lb < 19999) (Fx [50] (lb + 1) A A) := Cd_mk (fun _ => Fx_rf)
  have hfw := FA_at p_1 p_4 e_fw
  refine jx_ld (pc' := 1) (l' := [(0, .ref 66), (1, .int (i32 (n)))]) (st' := [.ref 66]) rfl (jl_aloadn rfl) ?_
  refine jr_get (pc' := 4) (i := 23) (v := .ref 76) rfl rfl (by decide) rfl rfl ?_
  refine jx_ld (pc' := 5) (l' := [(0, .ref 66), (1, .int (i32 (n)))]) (st' := [.ref 66, .ref 76]) rfl (jl_aloadn rfl) ?_
  refine jr_get (pc' := 8) (i := 34) (v := .ref 84) rfl rfl (by decide) rfl rfl ?_
  refine jx_ld (pc' := 9) (l' := [(0, .ref 66), (1, .int (i32 (n)))]) (st' := [.int (i32 (n)), .ref 84, .ref 76]) rfl (jl_iloadn rfl) ?_
  have b1 : (-2147483648 : Int) ≤ T0 17 (n).toNat ∧ T0 17 (n).toNat ≤ 2147483647 := hWT.2 17 _
  refine jr_ldv (pc' := 10) (i := 17) (m := 7000) (z := n) (y := T0 17 (n).toNat) rfl (by decide) rfl (by decide) (by omega) (by omega) rfl (show A 17 (n).toNat = T0 17 (n).toNat from (congrFun (p_0 17 rfl) _)) ?_
  have b2 : (-2147483648 : Int) ≤ T0 9 (T0 17 (n).toNat).toNat ∧ T0 9 (T0 17 (n).toNat).toNat ≤ 2147483647 := hWT.2 9 _
  refine jr_ldv (pc' := 11) (i := 9) (m := 260) (z := T0 17 (n).toNat) (y := T0 9 (T0 17 (n).toNat).toNat) rfl (by decide) rfl (by decide) (by omega) (by omega) rfl (show A 9 (T0 17 (n).toNat).toNat = T0 9 (T0 17 (n).toNat).toNat from (congrFun (p_0 9 rfl) _)) ?_
  refine jx_ld (pc' := 12) (l' := jSto1 [(0, .ref 66), (1, .int (i32 (n)))] 2 (.int (i32 (T0 9 (T0 17 (n).toNat).toNat)))) (st' := []) rfl rfl ?_
  obtain ⟨L3, eL3⟩ : ∃ q, q = jSto1 [(0, .ref 66), (1, .int (i32 (n)))] 2 (.int (i32 (T0 9 (T0 17 (n).toNat).toNat))) := ⟨_, rfl⟩
  rw [← eL3]
  have gL3_0 : jGet L3 0 = some (.ref 66) := eL3 ▸ jg_ne (by decide) (rfl : jGet [(0, .ref 66), (1, .int (i32 (n)))] 0 = some (.ref 66)) rfl
  have gL3_1 : jGet L3 1 = some (.int (i32 (n))) := eL3 ▸ jg_ne (by decide) (rfl : jGet [(0, .ref 66), (1, .int (i32 (n)))] 1 = some (.int (i32 (n)))) rfl
  have gL3_2 : jGet L3 2 = some (.int (i32 (T0 9 (T0 17 (n).toNat).toNat))) := eL3 ▸ jg_eq
  refine jx_ld (pc' := 13) (l' := L3) (st' := [.ref 66]) rfl (jl_aloadn gL3_0) ?_
  refine jx_vr (pc' := 16) (as := []) (st := []) rfl rfl rfl rfl ⟨rfl, rfl, Nat.le_of_ble_eq_true rfl⟩ rfl rfl (c_label (dd := d) (hd := by omega) (hW := hW)  (lb := lb) (e_lb := show G 77 = lb from (e_lb))    (p_0 := by omega) (p_1 := by omega)) (fun o V' hq => ?_)
  obtain ⟨G4, A5, r6, lb2_7, rfl, rfl, hW8, hF9, b10, e11, p12, p13, p14, p15, -⟩ := hq
  have hF17 := Fr_tr hF0 hF9 (Fr_sub (by decide)) (Fr_sub (by decide))
  have hC18 := Fx_f hC0 hF9 (by decide)
  have hAl19 := Fx_f hAl0 hF9 (by decide)
  have hBp20 := Fx_f hBp0 hF9 (by decide)
  have sf21 := FA_fr (hF9.2 51 rfl) p_1
  have sf22 := SA_fr (hF9.2 13 rfl) p_2
  have blb2_7 : (-2147483648 : Int) ≤ lb2_7 ∧ lb2_7 ≤ 2147483647 := e11 ▸ hW8.1 77
  refine .inr ⟨_, rfl, ?_⟩
  have hBo23 : Cd (lg = 0 ∧ lb2_7 < 19999) (Fx [50] (lb + 1) A A5) := Cd_mk (fun hC => Fx_f (Cd_ap hBo0 (by omega)) hF9 (by decide))
  refine jx_ld (pc' := 17) (l' := jSto1 L3 3 (.int (i32 (r6)))) (st' := []) rfl rfl ?_
  obtain ⟨L24, eL24⟩ : ∃ q, q = jSto1 L3 3 (.int (i32 (r6))) := ⟨_, rfl⟩
  rw [← eL24]
  have gL24_0 : jGet L24 0 = some (.ref 66) := eL24 ▸ jg_ne (by decide) gL3_0 rfl
  have gL24_1 : jGet L24 1 = some (.int (i32 (n))) := eL24 ▸ jg_ne (by decide) gL3_1 rfl
  have gL24_2 : jGet L24 2 = some (.int (i32 (T0 9 (T0 17 (n).toNat).toNat))) := eL24 ▸ jg_ne (by decide) gL3_2 rfl
  have gL24_3 : jGet L24 3 = some (.int (i32 (r6))) := eL24 ▸ jg_eq
  have _q : True := trivial
  refine jx_ld (pc' := 18) (l' := L24) (st' := [.ref 66]) rfl (jl_aloadn gL24_0) ?_
  refine jx_vr (pc' := 21) (as := []) (st := []) rfl rfl rfl rfl ⟨rfl, rfl, Nat.le_of_ble_eq_true rfl⟩ rfl rfl (c_label (dd := d) (hd := by omega) (hW := hW8)  (lb := lb2_7) (e_lb := show G4 77 = lb2_7 from (e11))    (p_0 := by omega) (p_1 := by omega)) (fun o V' hq => ?_)
  obtain ⟨G25, A26, r27, lb2_28, rfl, rfl, hW29, hF30, b31, e32, p33, p34, p35, p36, -⟩ := hq
  have hF38 := Fr_tr hF17 hF30 (Fr_sub (by decide)) (Fr_sub (by decide))
  have hC39 := Fx_f hC18 hF30 (by decide)
  have hAl40 := Fx_f hAl19 hF30 (by decide)
  have hBp41 := Fx_f hBp20 hF30 (by decide)
  have sf42 := FA_fr (hF30.2 51 rfl) sf21
  have sf43 := SA_fr (hF30.2 13 rfl) sf22
  have blb2_28 : (-2147483648 : Int) ≤ lb2_28 ∧ lb2_28 ≤ 2147483647 := e32 ▸ hW29.1 77
  refine .inr ⟨_, rfl, ?_⟩
  have hBo44 : Cd (lg = 0 ∧ lb2_28 < 19999) (Fx [50] (lb + 1) A A26) := Cd_mk (fun hC => Fx_f (Cd_ap hBo23 (by omega)) hF30 (by decide))
  refine jx_ld (pc' := 23) (l' := jSto1 L24 4 (.int (i32 (r27)))) (st' := []) rfl rfl ?_
  obtain ⟨L45, eL45⟩ : ∃ q, q = jSto1 L24 4 (.int (i32 (r27))) := ⟨_, rfl⟩
  rw [← eL45]
  have gL45_0 : jGet L45 0 = some (.ref 66) := eL45 ▸ jg_ne (by decide) gL24_0 rfl
  have gL45_1 : jGet L45 1 = some (.int (i32 (n))) := eL45 ▸ jg_ne (by decide) gL24_1 rfl
  have gL45_2 : jGet L45 2 = some (.int (i32 (T0 9 (T0 17 (n).toNat).toNat))) := eL45 ▸ jg_ne (by decide) gL24_2 rfl
  have gL45_3 : jGet L45 3 = some (.int (i32 (r6))) := eL45 ▸ jg_ne (by decide) gL24_3 rfl
  have gL45_4 : jGet L45 4 = some (.int (i32 (r27))) := eL45 ▸ jg_eq
  have _q : True := trivial
  refine jx_ld (pc' := 24) (l' := L45) (st' := [.ref 66]) rfl (jl_aloadn gL45_0) ?_
  refine jx_ld (pc' := 25) (l' := L45) (st' := [.ref 66, .ref 66]) rfl (jl_aloadn gL45_0) ?_
  refine jr_get (pc' := 28) (i := 36) (v := .ref 86) rfl rfl (by decide) rfl rfl ?_
  refine jx_ld (pc' := 29) (l' := L45) (st' := [.int (i32 (n)), .ref 86, .ref 66]) rfl (jl_iloadn gL45_1) ?_
  have b46 : (-2147483648 : Int) ≤ T0 19 (n).toNat ∧ T0 19 (n).toNat ≤ 2147483647 := hWT.2 19 _
  refine jr_ldv (pc' := 30) (i := 19) (m := 7000) (z := n) (y := T0 19 (n).toNat) rfl (by decide) rfl (by decide) (by omega) (by omega) rfl (show A26 19 (n).toNat = T0 19 (n).toNat from (congrFun ((hF30.2 19 rfl).trans ((hF9.2 19 rfl).trans (p_0 19 rfl))) _)) ?_
  refine jx_vr (pc' := 33) (as := [.int (i32 (T0 19 (n).toNat))]) (st := []) rfl rfl rfl rfl ⟨rfl, rfl, Nat.le_of_ble_eq_true rfl⟩ rfl rfl (GE_all X 22 (dd := d) (hd := by omega) (hW := hW29) (e := T0 19 (n).toNat) (lo := n + 1) (hi := a7) (st := st) (e_st := show G25 70 = st from ((hF30.1 70 rfl).trans ((hF9.1 70 rfl).trans (e_st)))) (lg := lg) (e_lg := show G25 79 = lg from ((hF30.1 79 rfl).trans ((hF9.1 79 rfl).trans (e_lg)))) (lb := lb2_28) (e_lb := show G25 77 = lb2_28 from (e32)) (nw := nw) (e_nw := show G25 81 = nw from ((hF30.1 81 rfl).trans ((hF9.1 81 rfl).trans (e_nw))))  (h_e := ⟨(Int.le_trans (by decide : (-2147483648 : Int) ≤ -2147483648) b46.1), (Int.le_trans b46.2 (by decide : (2147483647 : Int) ≤ 2147483647))⟩)  (p_0 := (TA_fr hF38 (by decide) p_0)) (p_1 := sf42) (p_2 := sf43) (p_3 := p_3) (p_4 := by omega) (p_5 := by omega) (p_6 := by omega) (p_7 := by omega) (p_8 := by omega) (p_9 := by omega) (p_10 := by omega) (p_11 := by omega) (p_12 := by omega) (p_13 := (wE_mono (by omega) (by omega) (by omega) p_23)) (p_14 := by omega)) (fun o V' hq => ?_)
  obtain ⟨G47, A48, st2_49, lg2_50, lb2_51, rfl, rfl, hW52, hF53, hQ54, e55, e56, e57, p58, p59, p60, p61, p62, p63, p64, p65, p66, -⟩ := hq
  have hF68 := Fr_tr hF38 hF53 (Fr_sub (by decide)) (Fr_sub (by decide))
  have hC69 := Fx_tr hC39 hQ54 (by omega)
  have hAl70 := Fx_f hAl40 hF53 (by decide)
  have hBp71 := Fx_f hBp41 hF53 (by decide)
  have sf72 := FA_fr (hF53.2 51 rfl) sf42
  have sf73 := SA_fr (hF53.2 13 rfl) sf43
  have bst2_49 : (-2147483648 : Int) ≤ st2_49 ∧ st2_49 ≤ 2147483647 := e55 ▸ hW52.1 70
  have blg2_50 : (0 : Int) ≤ lg2_50 ∧ lg2_50 ≤ 1 := e56 ▸ hW52.1 79
  have blb2_51 : (-2147483648 : Int) ≤ lb2_51 ∧ lb2_51 ≤ 2147483647 := e57 ▸ hW52.1 77
  refine .inl ⟨rfl, ?_⟩
  have hBo74 : Cd (lg2_50 = 0 ∧ lb2_51 < 19999) (Fx [50] (lb + 1) A A48) := Cd_mk (fun hC => Fx_tr (Cd_ap hBo44 (by omega)) (Cd_ap p65 (by omega)) (by omega))
  refine jx_ld (pc' := 34) (l' := L45) (st' := [.ref 66]) rfl (jl_aloadn gL45_0) ?_
  refine jx_ar (pc' := 36) (st' := [.int (i32 (13)), .ref 66]) rfl rfl rfl rfl ?_
  refine jx_ld (pc' := 37) (l' := L45) (st' := [.int (i32 (T0 9 (T0 17 (n).toNat).toNat)), .int (i32 (13)), .ref 66]) rfl (jl_iloadn gL45_2) ?_
  refine jx_vr (pc' := 40) (as := [.int (i32 (13)), .int (i32 (T0 9 (T0 17 (n).toNat).toNat))]) (st := []) rfl rfl rfl rfl ⟨rfl, rfl, Nat.le_of_ble_eq_true rfl⟩ rfl rfl (c_emit (dd := d) (hd := by omega) (hW := hW52) (fn := 13) (v := T0 9 (T0 17 (n).toNat).toNat) (st := st2_49) (e_st := show G47 70 = st2_49 from (e55)) (lg := lg2_50) (e_lg := show G47 79 = lg2_50 from (e56))  (h_fn := ⟨(by decide), (by decide)⟩) (h_v := ⟨(Int.le_trans (by decide : (-2147483648 : Int) ≤ -2147483648) b2.1), (Int.le_trans b2.2 (by decide : (2147483647 : Int) ≤ 2147483647))⟩)  (p_0 := by omega) (p_1 := by omega)) (fun o V' hq => ?_)
  obtain ⟨G75, A76, st2_77, lg2_78, rfl, rfl, hW79, hF80, hQ81, e82, e83, p84, p85, p86, p87, p88, p89, -⟩ := hq
  have hF91 := Fr_tr hF68 hF80 (Fr_sub (by decide)) (Fr_sub (by decide))
  have hC92 := Fx_tr hC69 hQ81 (by omega)
  have hAl93 := Fx_f hAl70 hF80 (by decide)
  have hBp94 := Fx_f hBp71 hF80 (by decide)
  have sf95 := FA_fr (hF80.2 51 rfl) sf72
  have sf96 := SA_fr (hF80.2 13 rfl) sf73
  have bst2_77 : (-2147483648 : Int) ≤ st2_77 ∧ st2_77 ≤ 2147483647 := e82 ▸ hW79.1 70
  have blg2_78 : (0 : Int) ≤ lg2_78 ∧ lg2_78 ≤ 1 := e83 ▸ hW79.1 79
  refine .inl ⟨rfl, ?_⟩
  have sf97 : Cd (lg2_78 = 0 ∧ lb2_51 < 19999) (gE T0 A76 F Sn nw (22) (T0 19 (n).toNat) (st) (st2_49) (lb2_28) (lb2_51)) := Cd_mk (fun hC => gE_mv (Cg_fx (l0 := lb2_28) (l1 := lb2_51) hQ81 (Fx_f (w := lb2_51 + 1) Fx_rf hF80 (by decide)) (by omega)) (by omega) (Cd_ap p66 (by omega)))
  have hBo98 : Cd (lg2_78 = 0 ∧ lb2_51 < 19999) (Fx [50] (lb + 1) A A76) := Cd_mk (fun hC => Fx_f (Cd_ap hBo74 (by omega)) hF80 (by decide))
  refine jx_ld (pc' := 41) (l' := L45) (st' := [.ref 66]) rfl (jl_aloadn gL45_0) ?_
  refine jx_ld (pc' := 42) (l' := L45) (st' := [.ref 66, .ref 66]) rfl (jl_aloadn gL45_0) ?_
  refine jr_get (pc' := 45) (i := 37) (v := .ref 87) rfl rfl (by decide) rfl rfl ?_
  refine jx_ld (pc' := 46) (l' := L45) (st' := [.int (i32 (n)), .ref 87, .ref 66]) rfl (jl_iloadn gL45_1) ?_
  have b99 : (-2147483648 : Int) ≤ T0 20 (n).toNat ∧ T0 20 (n).toNat ≤ 2147483647 := hWT.2 20 _
  refine jr_ldv (pc' := 47) (i := 20) (m := 7000) (z := n) (y := T0 20 (n).toNat) rfl (by decide) rfl (by decide) (by omega) (by omega) rfl (show A76 20 (n).toNat = T0 20 (n).toNat from (congrFun ((hF80.2 20 rfl).trans ((hF53.2 20 rfl).trans ((hF30.2 20 rfl).trans ((hF9.2 20 rfl).trans (p_0 20 rfl))))) _)) ?_
  refine jx_vr (pc' := 50) (as := [.int (i32 (T0 20 (n).toNat))]) (st := []) rfl rfl rfl rfl ⟨rfl, rfl, Nat.le_of_ble_eq_true rfl⟩ rfl rfl (GE_all X 22 (dd := d) (hd := by omega) (hW := hW79) (e := T0 20 (n).toNat) (lo := a7) (hi := b7) (st := st2_77) (e_st := show G75 70 = st2_77 from (e82)) (lg := lg2_78) (e_lg := show G75 79 = lg2_78 from (e83)) (lb := lb2_51) (e_lb := show G75 77 = lb2_51 from ((hF80.1 77 rfl).trans (e57))) (nw := nw) (e_nw := show G75 81 = nw from ((hF80.1 81 rfl).trans ((hF53.1 81 rfl).trans ((hF30.1 81 rfl).trans ((hF9.1 81 rfl).trans (e_nw))))))  (h_e := ⟨(Int.le_trans (by decide : (-2147483648 : Int) ≤ -2147483648) b99.1), (Int.le_trans b99.2 (by decide : (2147483647 : Int) ≤ 2147483647))⟩)  (p_0 := (TA_fr hF91 (by decide) p_0)) (p_1 := sf95) (p_2 := sf96) (p_3 := p_3) (p_4 := by omega) (p_5 := by omega) (p_6 := by omega) (p_7 := by omega) (p_8 := by omega) (p_9 := by omega) (p_10 := by omega) (p_11 := by omega) (p_12 := by omega) (p_13 := (wE_mono (by omega) (by omega) (by omega) p_24)) (p_14 := by omega)) (fun o V' hq => ?_)
  obtain ⟨G100, A101, st2_102, lg2_103, lb2_104, rfl, rfl, hW105, hF106, hQ107, e108, e109, e110, p111, p112, p113, p114, p115, p116, p117, p118, p119, -⟩ := hq
  have hF121 := Fr_tr hF91 hF106 (Fr_sub (by decide)) (Fr_sub (by decide))
  have hC122 := Fx_tr hC92 hQ107 (by omega)
  have hAl123 := Fx_f hAl93 hF106 (by decide)
  have hBp124 := Fx_f hBp94 hF106 (by decide)
  have sf125 := FA_fr (hF106.2 51 rfl) sf95
  have sf126 := SA_fr (hF106.2 13 rfl) sf96
  have bst2_102 : (-2147483648 : Int) ≤ st2_102 ∧ st2_102 ≤ 2147483647 := e108 ▸ hW105.1 70
  have blg2_103 : (0 : Int) ≤ lg2_103 ∧ lg2_103 ≤ 1 := e109 ▸ hW105.1 79
  have blb2_104 : (-2147483648 : Int) ≤ lb2_104 ∧ lb2_104 ≤ 2147483647 := e110 ▸ hW105.1 77
  refine .inl ⟨rfl, ?_⟩
  have sf127 : Cd (lg2_103 = 0 ∧ lb2_104 < 19999) (gE T0 A101 F Sn nw (22) (T0 19 (n).toNat) (st) (st2_49) (lb2_28) (lb2_51)) := Cd_mk (fun hC => gE_mv (Cg_fx (l0 := lb2_28) (l1 := lb2_51) hQ107 (Cd_ap p118 (by omega)) (by omega)) (by omega) (Cd_ap sf97 (by omega)))
  have sf128 : Cd (lg2_103 = 0 ∧ lb2_104 < 19999) (ST A101 (st2_49) (st2_77) (13) (T0 9 (T0 17 (n).toNat).toNat)) := Cd_mk (fun hC => ST_mv (Cg_fx (l0 := 0) (l1 := 0) hQ107 (Cd_ap p118 (by omega)) (by omega)) (by omega) (Cd_ap p89 (by omega)))
  have hBo129 : Cd (lg2_103 = 0 ∧ lb2_104 < 19999) (Fx [50] (lb + 1) A A101) := Cd_mk (fun hC => Fx_tr (Cd_ap hBo98 (by omega)) (Cd_ap p118 (by omega)) (by omega))
  refine jx_ld (pc' := 51) (l' := L45) (st' := [.ref 66]) rfl (jl_aloadn gL45_0) ?_
  refine jx_ar (pc' := 53) (st' := [.int (i32 (13)), .ref 66]) rfl rfl rfl rfl ?_
  refine jx_ld (pc' := 54) (l' := L45) (st' := [.int (i32 (T0 9 (T0 17 (n).toNat).toNat)), .int (i32 (13)), .ref 66]) rfl (jl_iloadn gL45_2) ?_
  refine jx_ar (pc' := 55) (st' := [.int (i32 (1)), .int (i32 (T0 9 (T0 17 (n).toNat).toNat)), .int (i32 (13)), .ref 66]) rfl rfl rfl rfl ?_
  refine jx_add (pc' := 56) rfl rfl ?_
  refine jx_vr (pc' := 59) (as := [.int (i32 (13)), .int (i32 ((T0 9 (T0 17 (n).toNat).toNat + 1)))]) (st := []) rfl rfl rfl rfl ⟨rfl, rfl, Nat.le_of_ble_eq_true rfl⟩ rfl rfl (c_emit (dd := d) (hd := by omega) (hW := hW105) (fn := 13) (v := (T0 9 (T0 17 (n).toNat).toNat + 1)) (st := st2_102) (e_st := show G100 70 = st2_102 from (e108)) (lg := lg2_103) (e_lg := show G100 79 = lg2_103 from (e109))  (h_fn := ⟨(by decide), (by decide)⟩) (h_v := ⟨(by omega), (by omega)⟩)  (p_0 := by omega) (p_1 := by omega)) (fun o V' hq => ?_)
  obtain ⟨G130, A131, st2_132, lg2_133, rfl, rfl, hW134, hF135, hQ136, e137, e138, p139, p140, p141, p142, p143, p144, -⟩ := hq
  have hF146 := Fr_tr hF121 hF135 (Fr_sub (by decide)) (Fr_sub (by decide))
  have hC147 := Fx_tr hC122 hQ136 (by omega)
  have hAl148 := Fx_f hAl123 hF135 (by decide)
  have hBp149 := Fx_f hBp124 hF135 (by decide)
  have sf150 := FA_fr (hF135.2 51 rfl) sf125
  have sf151 := SA_fr (hF135.2 13 rfl) sf126
  have bst2_132 : (-2147483648 : Int) ≤ st2_132 ∧ st2_132 ≤ 2147483647 := e137 ▸ hW134.1 70
  have blg2_133 : (0 : Int) ≤ lg2_133 ∧ lg2_133 ≤ 1 := e138 ▸ hW134.1 79
  refine .inl ⟨rfl, ?_⟩
  have sf152 : Cd (lg2_133 = 0 ∧ lb2_104 < 19999) (gE T0 A131 F Sn nw (22) (T0 19 (n).toNat) (st) (st2_49) (lb2_28) (lb2_51)) := Cd_mk (fun hC => gE_mv (Cg_fx (l0 := lb2_28) (l1 := lb2_51) hQ136 (Fx_f (w := lb2_51 + 1) Fx_rf hF135 (by decide)) (by omega)) (by omega) (Cd_ap sf127 (by omega)))
  have sf153 : Cd (lg2_133 = 0 ∧ lb2_104 < 19999) (ST A131 (st2_49) (st2_77) (13) (T0 9 (T0 17 (n).toNat).toNat)) := Cd_mk (fun hC => ST_mv (Cg_fx (l0 := 0) (l1 := 0) hQ136 (Fx_f (w := 0 + 1) Fx_rf hF135 (by decide)) (by omega)) (by omega) (Cd_ap sf128 (by omega)))
  have sf154 : Cd (lg2_133 = 0 ∧ lb2_104 < 19999) (gE T0 A131 F Sn nw (22) (T0 20 (n).toNat) (st2_77) (st2_102) (lb2_51) (lb2_104)) := Cd_mk (fun hC => gE_mv (Cg_fx (l0 := lb2_51) (l1 := lb2_104) hQ136 (Fx_f (w := lb2_104 + 1) Fx_rf hF135 (by decide)) (by omega)) (by omega) (Cd_ap p119 (by omega)))
  have hBo155 : Cd (lg2_133 = 0 ∧ lb2_104 < 19999) (Fx [50] (lb + 1) A A131) := Cd_mk (fun hC => Fx_f (Cd_ap hBo129 (by omega)) hF135 (by decide))
  refine jx_ld (pc' := 60) (l' := L45) (st' := [.ref 66]) rfl (jl_aloadn gL45_0) ?_
  refine jx_ld (pc' := 61) (l' := L45) (st' := [.int (i32 (r6)), .ref 66]) rfl (jl_iloadn gL45_3) ?_
  refine jx_vr (pc' := 64) (as := [.int (i32 (r6))]) (st := []) rfl rfl rfl rfl ⟨rfl, rfl, Nat.le_of_ble_eq_true rfl⟩ rfl rfl (c_set (dd := d) (hd := by omega) (hW := hW134) (l := r6) (st := st2_132) (e_st := show G130 70 = st2_132 from (e137))  (h_l := ⟨(Int.le_trans (by decide : (-2147483648 : Int) ≤ -2147483648) b10.1), (Int.le_trans b10.2 (by decide : (2147483647 : Int) ≤ 2147483647))⟩)  (p_0 := by omega) (p_1 := by omega)) (fun o V' hq => ?_)
  obtain ⟨G156, A157, ls2_158, rfl, rfl, hW159, hF160, e161, p162, q163⟩ := hq
  have hF164 := Fr_tr hF146 hF160 (Fr_sub (by decide)) (Fr_sub (by decide))
  have hC165 := Fx_f hC147 hF160 (by decide)
  have hAl166 := Fx_f hAl148 hF160 (by decide)
  have hBp167 := Fx_f hBp149 hF160 (by decide)
  have bls2_158 : (-2147483648 : Int) ≤ ls2_158 ∧ ls2_158 ≤ 2147483647 := e161 ▸ hW159.2 50 _
  refine .inl ⟨rfl, ?_⟩
  have a168 := q163
  have sf169 := FA_fr ((congrFun a168 51).trans (uA_ne (by decide))) sf150
  have sf170 := SA_fr ((congrFun a168 13).trans (uA_ne (by decide))) sf151
  have sf171 : Cd (lg2_133 = 0 ∧ lb2_104 < 19999) (gE T0 A157 F Sn nw (22) (T0 19 (n).toNat) (st) (st2_49) (lb2_28) (lb2_51)) := Cd_mk (fun hC => gE_mv (Cg_set (K := st2_49) a168 (by omega) (by have hr := Cd_ap p15 (by omega); omega)) (Int.le_refl _) (Cd_ap sf152 (by omega)))
  have sf172 : Cd (lg2_133 = 0 ∧ lb2_104 < 19999) (ST A157 (st2_49) (st2_77) (13) (T0 9 (T0 17 (n).toNat).toNat)) := Cd_mk (fun hC => ST_mv (Cg_set (K := st2_77) (l0 := r6) (l1 := r6) a168 (by omega) (by omega)) (Int.le_refl _) (Cd_ap sf153 (by omega)))
  have sf173 : Cd (lg2_133 = 0 ∧ lb2_104 < 19999) (gE T0 A157 F Sn nw (22) (T0 20 (n).toNat) (st2_77) (st2_102) (lb2_51) (lb2_104)) := Cd_mk (fun hC => gE_mv (Cg_set (K := st2_102) a168 (by omega) (by have hr := Cd_ap p15 (by omega); omega)) (Int.le_refl _) (Cd_ap sf154 (by omega)))
  have sf174 : Cd (lg2_133 = 0 ∧ lb2_104 < 19999) (ST A157 (st2_102) (st2_132) (13) (T0 9 (T0 17 (n).toNat).toNat + 1)) := Cd_mk (fun hC => ST_mv (Cg_set (K := st2_132) (l0 := r6) (l1 := r6) a168 (by omega) (by omega)) (Int.le_refl _) (Cd_ap p144 (by omega)))
  have hBo175 : Cd (lg2_133 = 0 ∧ lb2_104 < 19999) (Fx [50] (lb + 1) A A157) := Cd_mk (fun hC => Fx_u a168 (Cd_ap hBo155 (by omega)) (by omega) (by have hr := Cd_ap p15 (by omega); omega))
  have ls176 : Cd (lg2_133 = 0 ∧ lb2_104 < 19999) (LZ A157 (r6) (ls2_158) (lb) (lb2_7)) := Cd_mk (fun hC => LZ_mk (by omega) (by have hr := Cd_ap p15 (by omega); omega) (by have hr := Cd_ap p15 (by omega); omega) (show A157 50 (r6).toNat = ls2_158 from (e161)))
  refine jx_ld (pc' := 65) (l' := L45) (st' := [.ref 66]) rfl (jl_aloadn gL45_0) ?_
  refine jx_ar (pc' := 67) (st' := [.int (i32 (7)), .ref 66]) rfl rfl rfl rfl ?_
  refine jx_ld (pc' := 68) (l' := L45) (st' := [.int (i32 (T0 9 (T0 17 (n).toNat).toNat)), .int (i32 (7)), .ref 66]) rfl (jl_iloadn gL45_2) ?_
  refine jx_ar (pc' := 69) (st' := [.int (i32 (1)), .int (i32 (T0 9 (T0 17 (n).toNat).toNat)), .int (i32 (7)), .ref 66]) rfl rfl rfl rfl ?_
  refine jx_add (pc' := 70) rfl rfl ?_
  refine jx_vr (pc' := 73) (as := [.int (i32 (7)), .int (i32 ((T0 9 (T0 17 (n).toNat).toNat + 1)))]) (st := []) rfl rfl rfl rfl ⟨rfl, rfl, Nat.le_of_ble_eq_true rfl⟩ rfl rfl (c_emit (dd := d) (hd := by omega) (hW := hW159) (fn := 7) (v := (T0 9 (T0 17 (n).toNat).toNat + 1)) (st := st2_132) (e_st := show G156 70 = st2_132 from ((hF160.1 70 rfl).trans (e137))) (lg := lg2_133) (e_lg := show G156 79 = lg2_133 from ((hF160.1 79 rfl).trans (e138)))  (h_fn := ⟨(by decide), (by decide)⟩) (h_v := ⟨(by omega), (by omega)⟩)  (p_0 := by omega) (p_1 := by omega)) (fun o V' hq => ?_)
  obtain ⟨G177, A178, st2_179, lg2_180, rfl, rfl, hW181, hF182, hQ183, e184, e185, p186, p187, p188, p189, p190, p191, -⟩ := hq
  have hF193 := Fr_tr hF164 hF182 (Fr_sub (by decide)) (Fr_sub (by decide))
  have hC194 := Fx_tr hC165 hQ183 (by omega)
  have hAl195 := Fx_f hAl166 hF182 (by decide)
  have hBp196 := Fx_f hBp167 hF182 (by decide)
  have sf197 := FA_fr (hF182.2 51 rfl) sf169
  have sf198 := SA_fr (hF182.2 13 rfl) sf170
  have bst2_179 : (-2147483648 : Int) ≤ st2_179 ∧ st2_179 ≤ 2147483647 := e184 ▸ hW181.1 70
  have blg2_180 : (0 : Int) ≤ lg2_180 ∧ lg2_180 ≤ 1 := e185 ▸ hW181.1 79
  refine .inl ⟨rfl, ?_⟩
  have sf199 : Cd (lg2_180 = 0 ∧ lb2_104 < 19999) (gE T0 A178 F Sn nw (22) (T0 19 (n).toNat) (st) (st2_49) (lb2_28) (lb2_51)) := Cd_mk (fun hC => gE_mv (Cg_fx (l0 := lb2_28) (l1 := lb2_51) hQ183 (Fx_f (w := lb2_51 + 1) Fx_rf hF182 (by decide)) (by omega)) (by omega) (Cd_ap sf171 (by omega)))
  have sf200 : Cd (lg2_180 = 0 ∧ lb2_104 < 19999) (ST A178 (st2_49) (st2_77) (13) (T0 9 (T0 17 (n).toNat).toNat)) := Cd_mk (fun hC => ST_mv (Cg_fx (l0 := 0) (l1 := 0) hQ183 (Fx_f (w := 0 + 1) Fx_rf hF182 (by decide)) (by omega)) (by omega) (Cd_ap sf172 (by omega)))
  have sf201 : Cd (lg2_180 = 0 ∧ lb2_104 < 19999) (gE T0 A178 F Sn nw (22) (T0 20 (n).toNat) (st2_77) (st2_102) (lb2_51) (lb2_104)) := Cd_mk (fun hC => gE_mv (Cg_fx (l0 := lb2_51) (l1 := lb2_104) hQ183 (Fx_f (w := lb2_104 + 1) Fx_rf hF182 (by decide)) (by omega)) (by omega) (Cd_ap sf173 (by omega)))
  have sf202 : Cd (lg2_180 = 0 ∧ lb2_104 < 19999) (ST A178 (st2_102) (st2_132) (13) (T0 9 (T0 17 (n).toNat).toNat + 1)) := Cd_mk (fun hC => ST_mv (Cg_fx (l0 := 0) (l1 := 0) hQ183 (Fx_f (w := 0 + 1) Fx_rf hF182 (by decide)) (by omega)) (by omega) (Cd_ap sf174 (by omega)))
  have sf203 : Cd (lg2_180 = 0 ∧ lb2_104 < 19999) (LZ A178 (r6) (ls2_158) (lb) (lb2_7)) := Cd_mk (fun hC => LZ_mv (Cg_fx (l0 := lb) (l1 := lb2_7) hQ183 (Fx_f (w := lb2_7 + 1) Fx_rf hF182 (by decide)) (by omega)) (by omega) (Cd_ap ls176 (by omega)))
  have hBo204 : Cd (lg2_180 = 0 ∧ lb2_104 < 19999) (Fx [50] (lb + 1) A A178) := Cd_mk (fun hC => Fx_f (Cd_ap hBo175 (by omega)) hF182 (by decide))
  refine jx_ld (pc' := 74) (l' := L45) (st' := [.ref 66]) rfl (jl_aloadn gL45_0) ?_
  refine jx_ar (pc' := 75) (st' := [.int (i32 (4)), .ref 66]) rfl rfl rfl rfl ?_
  refine jx_ar (pc' := 76) (st' := [.int (i32 (0)), .int (i32 (4)), .ref 66]) rfl rfl rfl rfl ?_
  refine jx_vr (pc' := 79) (as := [.int (i32 (4)), .int (i32 (0))]) (st := []) rfl rfl rfl rfl ⟨rfl, rfl, Nat.le_of_ble_eq_true rfl⟩ rfl rfl (c_emit (dd := d) (hd := by omega) (hW := hW181) (fn := 4) (v := 0) (st := st2_179) (e_st := show G177 70 = st2_179 from (e184)) (lg := lg2_180) (e_lg := show G177 79 = lg2_180 from (e185))  (h_fn := ⟨(by decide), (by decide)⟩) (h_v := ⟨(by decide), (by decide)⟩)  (p_0 := by omega) (p_1 := by omega)) (fun o V' hq => ?_)
  obtain ⟨G205, A206, st2_207, lg2_208, rfl, rfl, hW209, hF210, hQ211, e212, e213, p214, p215, p216, p217, p218, p219, -⟩ := hq
  have hF221 := Fr_tr hF193 hF210 (Fr_sub (by decide)) (Fr_sub (by decide))
  have hC222 := Fx_tr hC194 hQ211 (by omega)
  have hAl223 := Fx_f hAl195 hF210 (by decide)
  have hBp224 := Fx_f hBp196 hF210 (by decide)
  have sf225 := FA_fr (hF210.2 51 rfl) sf197
  have sf226 := SA_fr (hF210.2 13 rfl) sf198
  have bst2_207 : (-2147483648 : Int) ≤ st2_207 ∧ st2_207 ≤ 2147483647 := e212 ▸ hW209.1 70
  have blg2_208 : (0 : Int) ≤ lg2_208 ∧ lg2_208 ≤ 1 := e213 ▸ hW209.1 79
  refine .inl ⟨rfl, ?_⟩
  have sf227 : Cd (lg2_208 = 0 ∧ lb2_104 < 19999) (gE T0 A206 F Sn nw (22) (T0 19 (n).toNat) (st) (st2_49) (lb2_28) (lb2_51)) := Cd_mk (fun hC => gE_mv (Cg_fx (l0 := lb2_28) (l1 := lb2_51) hQ211 (Fx_f (w := lb2_51 + 1) Fx_rf hF210 (by decide)) (by omega)) (by omega) (Cd_ap sf199 (by omega)))
  have sf228 : Cd (lg2_208 = 0 ∧ lb2_104 < 19999) (ST A206 (st2_49) (st2_77) (13) (T0 9 (T0 17 (n).toNat).toNat)) := Cd_mk (fun hC => ST_mv (Cg_fx (l0 := 0) (l1 := 0) hQ211 (Fx_f (w := 0 + 1) Fx_rf hF210 (by decide)) (by omega)) (by omega) (Cd_ap sf200 (by omega)))
  have sf229 : Cd (lg2_208 = 0 ∧ lb2_104 < 19999) (gE T0 A206 F Sn nw (22) (T0 20 (n).toNat) (st2_77) (st2_102) (lb2_51) (lb2_104)) := Cd_mk (fun hC => gE_mv (Cg_fx (l0 := lb2_51) (l1 := lb2_104) hQ211 (Fx_f (w := lb2_104 + 1) Fx_rf hF210 (by decide)) (by omega)) (by omega) (Cd_ap sf201 (by omega)))
  have sf230 : Cd (lg2_208 = 0 ∧ lb2_104 < 19999) (ST A206 (st2_102) (st2_132) (13) (T0 9 (T0 17 (n).toNat).toNat + 1)) := Cd_mk (fun hC => ST_mv (Cg_fx (l0 := 0) (l1 := 0) hQ211 (Fx_f (w := 0 + 1) Fx_rf hF210 (by decide)) (by omega)) (by omega) (Cd_ap sf202 (by omega)))
  have sf231 : Cd (lg2_208 = 0 ∧ lb2_104 < 19999) (LZ A206 (r6) (ls2_158) (lb) (lb2_7)) := Cd_mk (fun hC => LZ_mv (Cg_fx (l0 := lb) (l1 := lb2_7) hQ211 (Fx_f (w := lb2_7 + 1) Fx_rf hF210 (by decide)) (by omega)) (by omega) (Cd_ap sf203 (by omega)))
  have sf232 : Cd (lg2_208 = 0 ∧ lb2_104 < 19999) (ST A206 (st2_132) (st2_179) (7) (T0 9 (T0 17 (n).toNat).toNat + 1)) := Cd_mk (fun hC => ST_mv (Cg_fx (l0 := 0) (l1 := 0) hQ211 (Fx_f (w := 0 + 1) Fx_rf hF210 (by decide)) (by omega)) (by omega) (Cd_ap p191 (by omega)))
  have hBo233 : Cd (lg2_208 = 0 ∧ lb2_104 < 19999) (Fx [50] (lb + 1) A A206) := Cd_mk (fun hC => Fx_f (Cd_ap hBo204 (by omega)) hF210 (by decide))
  refine jx_ld (pc' := 80) (l' := L45) (st' := [.ref 66]) rfl (jl_aloadn gL45_0) ?_
  refine jx_ar (pc' := 82) (st' := [.int (i32 (6)), .ref 66]) rfl rfl rfl rfl ?_
  refine jx_vr (pc' := 85) (as := [.int (i32 (6))]) (st := []) rfl rfl rfl rfl ⟨rfl, rfl, Nat.le_of_ble_eq_true rfl⟩ rfl rfl (c_op (dd := d) (hd := by omega) (hW := hW209) (oo := 6) (st := st2_207) (e_st := show G205 70 = st2_207 from (e212)) (lg := lg2_208) (e_lg := show G205 79 = lg2_208 from (e213))  (h_oo := ⟨(by decide), (by decide)⟩)  (p_0 := by omega) (p_1 := by omega)) (fun o V' hq => ?_)
  obtain ⟨G234, A235, st2_236, lg2_237, rfl, rfl, hW238, hF239, hQ240, e241, e242, p243, p244, p245, p246, p247, p248, -⟩ := hq
  have hF250 := Fr_tr hF221 hF239 (Fr_sub (by decide)) (Fr_sub (by decide))
  have hC251 := Fx_tr hC222 hQ240 (by omega)
  have hAl252 := Fx_f hAl223 hF239 (by decide)
  have hBp253 := Fx_f hBp224 hF239 (by decide)
  have sf254 := FA_fr (hF239.2 51 rfl) sf225
  have sf255 := SA_fr (hF239.2 13 rfl) sf226
  have bst2_236 : (-2147483648 : Int) ≤ st2_236 ∧ st2_236 ≤ 2147483647 := e241 ▸ hW238.1 70
  have blg2_237 : (0 : Int) ≤ lg2_237 ∧ lg2_237 ≤ 1 := e242 ▸ hW238.1 79
  refine .inl ⟨rfl, ?_⟩
  have sf256 : Cd (lg2_237 = 0 ∧ lb2_104 < 19999) (gE T0 A235 F Sn nw (22) (T0 19 (n).toNat) (st) (st2_49) (lb2_28) (lb2_51)) := Cd_mk (fun hC => gE_mv (Cg_fx (l0 := lb2_28) (l1 := lb2_51) hQ240 (Fx_f (w := lb2_51 + 1) Fx_rf hF239 (by decide)) (by omega)) (by omega) (Cd_ap sf227 (by omega)))
  have sf257 : Cd (lg2_237 = 0 ∧ lb2_104 < 19999) (ST A235 (st2_49) (st2_77) (13) (T0 9 (T0 17 (n).toNat).toNat)) := Cd_mk (fun hC => ST_mv (Cg_fx (l0 := 0) (l1 := 0) hQ240 (Fx_f (w := 0 + 1) Fx_rf hF239 (by decide)) (by omega)) (by omega) (Cd_ap sf228 (by omega)))
  have sf258 : Cd (lg2_237 = 0 ∧ lb2_104 < 19999) (gE T0 A235 F Sn nw (22) (T0 20 (n).toNat) (st2_77) (st2_102) (lb2_51) (lb2_104)) := Cd_mk (fun hC => gE_mv (Cg_fx (l0 := lb2_51) (l1 := lb2_104) hQ240 (Fx_f (w := lb2_104 + 1) Fx_rf hF239 (by decide)) (by omega)) (by omega) (Cd_ap sf229 (by omega)))
  have sf259 : Cd (lg2_237 = 0 ∧ lb2_104 < 19999) (ST A235 (st2_102) (st2_132) (13) (T0 9 (T0 17 (n).toNat).toNat + 1)) := Cd_mk (fun hC => ST_mv (Cg_fx (l0 := 0) (l1 := 0) hQ240 (Fx_f (w := 0 + 1) Fx_rf hF239 (by decide)) (by omega)) (by omega) (Cd_ap sf230 (by omega)))
  have sf260 : Cd (lg2_237 = 0 ∧ lb2_104 < 19999) (LZ A235 (r6) (ls2_158) (lb) (lb2_7)) := Cd_mk (fun hC => LZ_mv (Cg_fx (l0 := lb) (l1 := lb2_7) hQ240 (Fx_f (w := lb2_7 + 1) Fx_rf hF239 (by decide)) (by omega)) (by omega) (Cd_ap sf231 (by omega)))
  have sf261 : Cd (lg2_237 = 0 ∧ lb2_104 < 19999) (ST A235 (st2_132) (st2_179) (7) (T0 9 (T0 17 (n).toNat).toNat + 1)) := Cd_mk (fun hC => ST_mv (Cg_fx (l0 := 0) (l1 := 0) hQ240 (Fx_f (w := 0 + 1) Fx_rf hF239 (by decide)) (by omega)) (by omega) (Cd_ap sf232 (by omega)))
  have sf262 : Cd (lg2_237 = 0 ∧ lb2_104 < 19999) (ST A235 (st2_179) (st2_207) (4) (0)) := Cd_mk (fun hC => ST_mv (Cg_fx (l0 := 0) (l1 := 0) hQ240 (Fx_f (w := 0 + 1) Fx_rf hF239 (by decide)) (by omega)) (by omega) (Cd_ap p219 (by omega)))
  have hBo263 : Cd (lg2_237 = 0 ∧ lb2_104 < 19999) (Fx [50] (lb + 1) A A235) := Cd_mk (fun hC => Fx_f (Cd_ap hBo233 (by omega)) hF239 (by decide))
  refine jx_ld (pc' := 86) (l' := L45) (st' := [.ref 66]) rfl (jl_aloadn gL45_0) ?_
  refine jx_ar (pc' := 88) (st' := [.int (i32 (10)), .ref 66]) rfl rfl rfl rfl ?_
  refine jx_ld (pc' := 90) (l' := L45) (st' := [.int (i32 (r27)), .int (i32 (10)), .ref 66]) rfl (jl_iload gL45_4) ?_
  refine jx_ar (pc' := 91) (st' := [.int (i32 (0)), .int (i32 (r27)), .int (i32 (10)), .ref 66]) rfl rfl rfl rfl ?_
  refine jx_vr (pc' := 94) (as := [.int (i32 (10)), .int (i32 (r27)), .int (i32 (0))]) (st := []) rfl rfl rfl rfl ⟨rfl, rfl, Nat.le_of_ble_eq_true rfl⟩ rfl rfl (c_way (dd := d) (hd := by omega) (hW := hW238) (fn := 10) (to := r27) (fr := 0) (st := st2_236) (e_st := show G234 70 = st2_236 from (e241)) (lg := lg2_237) (e_lg := show G234 79 = lg2_237 from (e242))  (h_fn := ⟨(by decide), (by decide)⟩) (h_to := ⟨(Int.le_trans (by decide : (-2147483648 : Int) ≤ -2147483648) b31.1), (Int.le_trans b31.2 (by decide : (2147483647 : Int) ≤ 2147483647))⟩) (h_fr := ⟨(by decide), (by decide)⟩)  (p_0 := by omega) (p_1 := by omega)) (fun o V' hq => ?_)
  obtain ⟨G264, A265, st2_266, lg2_267, rfl, rfl, hW268, hF269, hQ270, e271, e272, p273, p274, p275, p276, p277, p278, -⟩ := hq
  have hF280 := Fr_tr hF250 hF269 (Fr_sub (by decide)) (Fr_sub (by decide))
  have hC281 := Fx_tr hC251 hQ270 (by omega)
  have hAl282 := Fx_f hAl252 hF269 (by decide)
  have hBp283 := Fx_f hBp253 hF269 (by decide)
  have sf284 := FA_fr (hF269.2 51 rfl) sf254
  have sf285 := SA_fr (hF269.2 13 rfl) sf255
  have bst2_266 : (-2147483648 : Int) ≤ st2_266 ∧ st2_266 ≤ 2147483647 := e271 ▸ hW268.1 70
  have blg2_267 : (0 : Int) ≤ lg2_267 ∧ lg2_267 ≤ 1 := e272 ▸ hW268.1 79
  refine .inl ⟨rfl, ?_⟩
  have sf286 : Cd (lg2_267 = 0 ∧ lb2_104 < 19999) (gE T0 A265 F Sn nw (22) (T0 19 (n).toNat) (st) (st2_49) (lb2_28) (lb2_51)) := Cd_mk (fun hC => gE_mv (Cg_fx (l0 := lb2_28) (l1 := lb2_51) hQ270 (Fx_f (w := lb2_51 + 1) Fx_rf hF269 (by decide)) (by omega)) (by omega) (Cd_ap sf256 (by omega)))
  have sf287 : Cd (lg2_267 = 0 ∧ lb2_104 < 19999) (ST A265 (st2_49) (st2_77) (13) (T0 9 (T0 17 (n).toNat).toNat)) := Cd_mk (fun hC => ST_mv (Cg_fx (l0 := 0) (l1 := 0) hQ270 (Fx_f (w := 0 + 1) Fx_rf hF269 (by decide)) (by omega)) (by omega) (Cd_ap sf257 (by omega)))
  have sf288 : Cd (lg2_267 = 0 ∧ lb2_104 < 19999) (gE T0 A265 F Sn nw (22) (T0 20 (n).toNat) (st2_77) (st2_102) (lb2_51) (lb2_104)) := Cd_mk (fun hC => gE_mv (Cg_fx (l0 := lb2_51) (l1 := lb2_104) hQ270 (Fx_f (w := lb2_104 + 1) Fx_rf hF269 (by decide)) (by omega)) (by omega) (Cd_ap sf258 (by omega)))
  have sf289 : Cd (lg2_267 = 0 ∧ lb2_104 < 19999) (ST A265 (st2_102) (st2_132) (13) (T0 9 (T0 17 (n).toNat).toNat + 1)) := Cd_mk (fun hC => ST_mv (Cg_fx (l0 := 0) (l1 := 0) hQ270 (Fx_f (w := 0 + 1) Fx_rf hF269 (by decide)) (by omega)) (by omega) (Cd_ap sf259 (by omega)))
  have sf290 : Cd (lg2_267 = 0 ∧ lb2_104 < 19999) (LZ A265 (r6) (ls2_158) (lb) (lb2_7)) := Cd_mk (fun hC => LZ_mv (Cg_fx (l0 := lb) (l1 := lb2_7) hQ270 (Fx_f (w := lb2_7 + 1) Fx_rf hF269 (by decide)) (by omega)) (by omega) (Cd_ap sf260 (by omega)))
  have sf291 : Cd (lg2_267 = 0 ∧ lb2_104 < 19999) (ST A265 (st2_132) (st2_179) (7) (T0 9 (T0 17 (n).toNat).toNat + 1)) := Cd_mk (fun hC => ST_mv (Cg_fx (l0 := 0) (l1 := 0) hQ270 (Fx_f (w := 0 + 1) Fx_rf hF269 (by decide)) (by omega)) (by omega) (Cd_ap sf261 (by omega)))
  have sf292 : Cd (lg2_267 = 0 ∧ lb2_104 < 19999) (ST A265 (st2_179) (st2_207) (4) (0)) := Cd_mk (fun hC => ST_mv (Cg_fx (l0 := 0) (l1 := 0) hQ270 (Fx_f (w := 0 + 1) Fx_rf hF269 (by decide)) (by omega)) (by omega) (Cd_ap sf262 (by omega)))
  have sf293 : Cd (lg2_267 = 0 ∧ lb2_104 < 19999) (ST A265 (st2_207) (st2_236) (15) (6)) := Cd_mk (fun hC => ST_mv (Cg_fx (l0 := 0) (l1 := 0) hQ270 (Fx_f (w := 0 + 1) Fx_rf hF269 (by decide)) (by omega)) (by omega) (Cd_ap p248 (by omega)))
  have hBo294 : Cd (lg2_267 = 0 ∧ lb2_104 < 19999) (Fx [50] (lb + 1) A A265) := Cd_mk (fun hC => Fx_f (Cd_ap hBo263 (by omega)) hF269 (by decide))
  have hSA2 := SA_u (t := T0 17 (n).toNat) sf285 (by omega); have hVW2 := VW_u (t := T0 17 (n).toNat) p_3 p_4 (by omega) (by omega); have hVB2 := VB_u (w := s0) p_26 (by omega) (by omega : T0 17 (n).toNat < s0)
  refine jx_ld (pc' := 95) (l' := L45) (st' := [.ref 66]) rfl (jl_aloadn gL45_0) ?_
  refine jx_ld (pc' := 96) (l' := L45) (st' := [.ref 66, .ref 66]) rfl (jl_aloadn gL45_0) ?_
  refine jr_get (pc' := 99) (i := 38) (v := .ref 88) rfl rfl (by decide) rfl rfl ?_
  refine jx_ld (pc' := 100) (l' := L45) (st' := [.int (i32 (n)), .ref 88, .ref 66]) rfl (jl_iloadn gL45_1) ?_
  have b295 : (-2147483648 : Int) ≤ T0 21 (n).toNat ∧ T0 21 (n).toNat ≤ 2147483647 := hWT.2 21 _
  refine jr_ldv (pc' := 101) (i := 21) (m := 7000) (z := n) (y := T0 21 (n).toNat) rfl (by decide) rfl (by decide) (by omega) (by omega) rfl (show A265 21 (n).toNat = T0 21 (n).toNat from (congrFun ((hF269.2 21 rfl).trans ((hF239.2 21 rfl).trans ((hF210.2 21 rfl).trans ((hF182.2 21 rfl).trans ((hF160.2 21 rfl).trans ((hF135.2 21 rfl).trans ((hF106.2 21 rfl).trans ((hF80.2 21 rfl).trans ((hF53.2 21 rfl).trans ((hF30.2 21 rfl).trans ((hF9.2 21 rfl).trans (p_0 21 rfl)))))))))))) _)) ?_
  refine jx_vr (pc' := 104) (as := [.int (i32 (T0 21 (n).toNat))]) (st := []) rfl rfl rfl rfl ⟨rfl, rfl, Nat.le_of_ble_eq_true rfl⟩ rfl rfl (hN (dd := d) (hd := by omega) (hW := hW268) (p := T0 21 (n).toNat) (lo := b7) (hi := hi) (s0 := s0) (s1 := s1) (fr := fr) (z := z) (D := D) (st := st2_266) (e_st := show G264 70 = st2_266 from (e271)) (lg := lg2_267) (e_lg := show G264 79 = lg2_267 from (e272)) (lb := lb2_104) (e_lb := show G264 77 = lb2_104 from ((hF269.1 77 rfl).trans ((hF239.1 77 rfl).trans ((hF210.1 77 rfl).trans ((hF182.1 77 rfl).trans ((hF160.1 77 rfl).trans ((hF135.1 77 rfl).trans (e110)))))))) (nw := nw) (e_nw := show G264 81 = nw from ((hF269.1 81 rfl).trans ((hF239.1 81 rfl).trans ((hF210.1 81 rfl).trans ((hF182.1 81 rfl).trans ((hF160.1 81 rfl).trans ((hF135.1 81 rfl).trans ((hF106.1 81 rfl).trans ((hF80.1 81 rfl).trans ((hF53.1 81 rfl).trans ((hF30.1 81 rfl).trans ((hF9.1 81 rfl).trans (e_nw))))))))))))) (al := al) (e_al := show G264 89 = al from ((hF269.1 89 rfl).trans ((hF239.1 89 rfl).trans ((hF210.1 89 rfl).trans ((hF182.1 89 rfl).trans ((hF160.1 89 rfl).trans ((hF135.1 89 rfl).trans ((hF106.1 89 rfl).trans ((hF80.1 89 rfl).trans ((hF53.1 89 rfl).trans ((hF30.1 89 rfl).trans ((hF9.1 89 rfl).trans (e_al))))))))))))) (fw := fw) (e_fw := show A265 51 (nw).toNat = fw from (congrFun ((hF269.2 51 rfl).trans ((hF239.2 51 rfl).trans ((hF210.2 51 rfl).trans ((hF182.2 51 rfl).trans ((hF160.2 51 rfl).trans ((hF135.2 51 rfl).trans ((hF106.2 51 rfl).trans ((hF80.2 51 rfl).trans ((hF53.2 51 rfl).trans ((hF30.2 51 rfl).trans (hF9.2 51 rfl))))))))))) _).trans (e_fw))  (h_p := ⟨(Int.le_trans (by decide : (-2147483648 : Int) ≤ -2147483648) b295.1), (Int.le_trans b295.2 (by decide : (2147483647 : Int) ≤ 2147483647))⟩)  (p_0 := (TA_fr hF280 (by decide) p_0)) (p_1 := sf284) (p_2 := hSA2) (p_3 := hVW2) (p_4 := by omega) (p_5 := by omega) (p_6 := by omega) (p_7 := by omega) (p_8 := by omega) (p_9 := by omega) (p_10 := by omega) (p_11 := by omega) (p_12 := by omega) (p_13 := by omega) (p_14 := by omega) (p_15 := by omega) (p_16 := by omega) (p_17 := p_25) (p_18 := (VB_mo hVB2 (by omega))) (p_19 := p_27) (p_20 := by omega) (p_21 := by omega) (p_22 := by omega) (p_23 := by omega) (p_24 := by omega) (p_25 := by omega) (p_26 := by omega) (p_27 := p_39) (p_28 := (PA_fr (hF280.2 52 rfl) p_40))) (fun o V' hq => ?_)
  obtain ⟨G296, A297, st2_298, lg2_299, lb2_300, nw2_301, al2_302, fw2_303, rfl, rfl, hW304, hF305, hQ306, hQ307, hQ308, e309, e310, e311, e312, e313, e314, p315, p316, p317, p318, p319, p320, p321, p322, p323, p324, p325, p326, p327, p328, -⟩ := hq
  have hF330 := Fr_tr hF280 hF305 (Fr_sub (by decide)) (Fr_sub (by decide))
  have hC331 := Fx_tr hC281 hQ306 (by omega)
  have hAl332 := Fx_tr hAl282 hQ307 (by omega)
  have hBp333 := Fx_tr hBp283 hQ308 (by omega)
  have bst2_298 : (-2147483648 : Int) ≤ st2_298 ∧ st2_298 ≤ 2147483647 := e309 ▸ hW304.1 70
  have blg2_299 : (0 : Int) ≤ lg2_299 ∧ lg2_299 ≤ 1 := e310 ▸ hW304.1 79
  have blb2_300 : (-2147483648 : Int) ≤ lb2_300 ∧ lb2_300 ≤ 2147483647 := e311 ▸ hW304.1 77
  have bnw2_301 : (-2147483648 : Int) ≤ nw2_301 ∧ nw2_301 ≤ 2147483647 := e312 ▸ hW304.1 81
  have bal2_302 : (-2147483648 : Int) ≤ al2_302 ∧ al2_302 ≤ 2147483647 := e313 ▸ hW304.1 89
  have bfw2_303 : (-2147483648 : Int) ≤ fw2_303 ∧ fw2_303 ≤ 2147483647 := e314 ▸ hW304.2 51 _
  refine .inl ⟨rfl, ?_⟩
  have sf334 : Cd (lg2_299 = 0 ∧ lb2_300 < 19999) (gE T0 A297 F Sn nw (22) (T0 19 (n).toNat) (st) (st2_49) (lb2_28) (lb2_51)) := Cd_mk (fun hC => gE_mv (Cg_fx (l0 := lb2_28) (l1 := lb2_51) hQ306 (Cd_ap p322 (by omega)) (by omega)) (by omega) (Cd_ap sf286 (by omega)))
  have sf335 : Cd (lg2_299 = 0 ∧ lb2_300 < 19999) (ST A297 (st2_49) (st2_77) (13) (T0 9 (T0 17 (n).toNat).toNat)) := Cd_mk (fun hC => ST_mv (Cg_fx (l0 := 0) (l1 := 0) hQ306 (Cd_ap p322 (by omega)) (by omega)) (by omega) (Cd_ap sf287 (by omega)))
  have sf336 : Cd (lg2_299 = 0 ∧ lb2_300 < 19999) (gE T0 A297 F Sn nw (22) (T0 20 (n).toNat) (st2_77) (st2_102) (lb2_51) (lb2_104)) := Cd_mk (fun hC => gE_mv (Cg_fx (l0 := lb2_51) (l1 := lb2_104) hQ306 (Cd_ap p322 (by omega)) (by omega)) (by omega) (Cd_ap sf288 (by omega)))
  have sf337 : Cd (lg2_299 = 0 ∧ lb2_300 < 19999) (ST A297 (st2_102) (st2_132) (13) (T0 9 (T0 17 (n).toNat).toNat + 1)) := Cd_mk (fun hC => ST_mv (Cg_fx (l0 := 0) (l1 := 0) hQ306 (Cd_ap p322 (by omega)) (by omega)) (by omega) (Cd_ap sf289 (by omega)))
  have sf338 : Cd (lg2_299 = 0 ∧ lb2_300 < 19999) (LZ A297 (r6) (ls2_158) (lb) (lb2_7)) := Cd_mk (fun hC => LZ_mv (Cg_fx (l0 := lb) (l1 := lb2_7) hQ306 (Cd_ap p322 (by omega)) (by omega)) (by omega) (Cd_ap sf290 (by omega)))
  have sf339 : Cd (lg2_299 = 0 ∧ lb2_300 < 19999) (ST A297 (st2_132) (st2_179) (7) (T0 9 (T0 17 (n).toNat).toNat + 1)) := Cd_mk (fun hC => ST_mv (Cg_fx (l0 := 0) (l1 := 0) hQ306 (Cd_ap p322 (by omega)) (by omega)) (by omega) (Cd_ap sf291 (by omega)))
  have sf340 : Cd (lg2_299 = 0 ∧ lb2_300 < 19999) (ST A297 (st2_179) (st2_207) (4) (0)) := Cd_mk (fun hC => ST_mv (Cg_fx (l0 := 0) (l1 := 0) hQ306 (Cd_ap p322 (by omega)) (by omega)) (by omega) (Cd_ap sf292 (by omega)))
  have sf341 : Cd (lg2_299 = 0 ∧ lb2_300 < 19999) (ST A297 (st2_207) (st2_236) (15) (6)) := Cd_mk (fun hC => ST_mv (Cg_fx (l0 := 0) (l1 := 0) hQ306 (Cd_ap p322 (by omega)) (by omega)) (by omega) (Cd_ap sf293 (by omega)))
  have sf342 : Cd (lg2_299 = 0 ∧ lb2_300 < 19999) (WY A297 (st2_236) (st2_266) (10) (r27) (0)) := Cd_mk (fun hC => WY_mv (Cg_fx (l0 := 0) (l1 := 0) hQ306 (Cd_ap p322 (by omega)) (by omega)) (by omega) (Cd_ap p278 (by omega)))
  have hBo343 : Cd (lg2_299 = 0 ∧ lb2_300 < 19999) (Fx [50] (lb + 1) A A297) := Cd_mk (fun hC => Fx_tr (Cd_ap hBo294 (by omega)) (Cd_ap p322 (by omega)) (by omega))
  refine jx_ld (pc' := 105) (l' := L45) (st' := [.ref 66]) rfl (jl_aloadn gL45_0) ?_
  refine jx_ar (pc' := 107) (st' := [.int (i32 (7)), .ref 66]) rfl rfl rfl rfl ?_
  refine jx_ld (pc' := 108) (l' := L45) (st' := [.int (i32 (T0 9 (T0 17 (n).toNat).toNat)), .int (i32 (7)), .ref 66]) rfl (jl_iloadn gL45_2) ?_
  refine jx_vr (pc' := 111) (as := [.int (i32 (7)), .int (i32 (T0 9 (T0 17 (n).toNat).toNat))]) (st := []) rfl rfl rfl rfl ⟨rfl, rfl, Nat.le_of_ble_eq_true rfl⟩ rfl rfl (c_emit (dd := d) (hd := by omega) (hW := hW304) (fn := 7) (v := T0 9 (T0 17 (n).toNat).toNat) (st := st2_298) (e_st := show G296 70 = st2_298 from (e309)) (lg := lg2_299) (e_lg := show G296 79 = lg2_299 from (e310))  (h_fn := ⟨(by decide), (by decide)⟩) (h_v := ⟨(Int.le_trans (by decide : (-2147483648 : Int) ≤ -2147483648) b2.1), (Int.le_trans b2.2 (by decide : (2147483647 : Int) ≤ 2147483647))⟩)  (p_0 := by omega) (p_1 := by omega)) (fun o V' hq => ?_)
  obtain ⟨G344, A345, st2_346, lg2_347, rfl, rfl, hW348, hF349, hQ350, e351, e352, p353, p354, p355, p356, p357, p358, -⟩ := hq
  have hF360 := Fr_tr hF330 hF349 (Fr_sub (by decide)) (Fr_sub (by decide))
  have hC361 := Fx_tr hC331 hQ350 (by omega)
  have hAl362 := Fx_f hAl332 hF349 (by decide)
  have hBp363 := Fx_f hBp333 hF349 (by decide)
  have sf364 := FA_fr (hF349.2 51 rfl) p326
  have sf365 := SA_fr (hF349.2 13 rfl) p327
  have bst2_346 : (-2147483648 : Int) ≤ st2_346 ∧ st2_346 ≤ 2147483647 := e351 ▸ hW348.1 70
  have blg2_347 : (0 : Int) ≤ lg2_347 ∧ lg2_347 ≤ 1 := e352 ▸ hW348.1 79
  refine .inl ⟨rfl, ?_⟩
  have sf366 : Cd (lg2_347 = 0 ∧ lb2_300 < 19999) (gE T0 A345 F Sn nw (22) (T0 19 (n).toNat) (st) (st2_49) (lb2_28) (lb2_51)) := Cd_mk (fun hC => gE_mv (Cg_fx (l0 := lb2_28) (l1 := lb2_51) hQ350 (Fx_f (w := lb2_51 + 1) Fx_rf hF349 (by decide)) (by omega)) (by omega) (Cd_ap sf334 (by omega)))
  have sf367 : Cd (lg2_347 = 0 ∧ lb2_300 < 19999) (ST A345 (st2_49) (st2_77) (13) (T0 9 (T0 17 (n).toNat).toNat)) := Cd_mk (fun hC => ST_mv (Cg_fx (l0 := 0) (l1 := 0) hQ350 (Fx_f (w := 0 + 1) Fx_rf hF349 (by decide)) (by omega)) (by omega) (Cd_ap sf335 (by omega)))
  have sf368 : Cd (lg2_347 = 0 ∧ lb2_300 < 19999) (gE T0 A345 F Sn nw (22) (T0 20 (n).toNat) (st2_77) (st2_102) (lb2_51) (lb2_104)) := Cd_mk (fun hC => gE_mv (Cg_fx (l0 := lb2_51) (l1 := lb2_104) hQ350 (Fx_f (w := lb2_104 + 1) Fx_rf hF349 (by decide)) (by omega)) (by omega) (Cd_ap sf336 (by omega)))
  have sf369 : Cd (lg2_347 = 0 ∧ lb2_300 < 19999) (ST A345 (st2_102) (st2_132) (13) (T0 9 (T0 17 (n).toNat).toNat + 1)) := Cd_mk (fun hC => ST_mv (Cg_fx (l0 := 0) (l1 := 0) hQ350 (Fx_f (w := 0 + 1) Fx_rf hF349 (by decide)) (by omega)) (by omega) (Cd_ap sf337 (by omega)))
  have sf370 : Cd (lg2_347 = 0 ∧ lb2_300 < 19999) (LZ A345 (r6) (ls2_158) (lb) (lb2_7)) := Cd_mk (fun hC => LZ_mv (Cg_fx (l0 := lb) (l1 := lb2_7) hQ350 (Fx_f (w := lb2_7 + 1) Fx_rf hF349 (by decide)) (by omega)) (by omega) (Cd_ap sf338 (by omega)))
  have sf371 : Cd (lg2_347 = 0 ∧ lb2_300 < 19999) (ST A345 (st2_132) (st2_179) (7) (T0 9 (T0 17 (n).toNat).toNat + 1)) := Cd_mk (fun hC => ST_mv (Cg_fx (l0 := 0) (l1 := 0) hQ350 (Fx_f (w := 0 + 1) Fx_rf hF349 (by decide)) (by omega)) (by omega) (Cd_ap sf339 (by omega)))
  have sf372 : Cd (lg2_347 = 0 ∧ lb2_300 < 19999) (ST A345 (st2_179) (st2_207) (4) (0)) := Cd_mk (fun hC => ST_mv (Cg_fx (l0 := 0) (l1 := 0) hQ350 (Fx_f (w := 0 + 1) Fx_rf hF349 (by decide)) (by omega)) (by omega) (Cd_ap sf340 (by omega)))
  have sf373 : Cd (lg2_347 = 0 ∧ lb2_300 < 19999) (ST A345 (st2_207) (st2_236) (15) (6)) := Cd_mk (fun hC => ST_mv (Cg_fx (l0 := 0) (l1 := 0) hQ350 (Fx_f (w := 0 + 1) Fx_rf hF349 (by decide)) (by omega)) (by omega) (Cd_ap sf341 (by omega)))
  have sf374 : Cd (lg2_347 = 0 ∧ lb2_300 < 19999) (WY A345 (st2_236) (st2_266) (10) (r27) (0)) := Cd_mk (fun hC => WY_mv (Cg_fx (l0 := 0) (l1 := 0) hQ350 (Fx_f (w := 0 + 1) Fx_rf hF349 (by decide)) (by omega)) (by omega) (Cd_ap sf342 (by omega)))
  have sf375 : Cd (lg2_347 = 0 ∧ lb2_300 < 19999) (gP T0 A345 Q (k) (F) (Sn) (nw) (T0 21 (n).toNat) (st2_266) (st2_298) (lb2_104) (lb2_300)) := Cd_mk (fun hC => gP_mv (Cg_fx (l0 := lb2_104) (l1 := lb2_300) hQ350 (Fx_f (w := lb2_300 + 1) Fx_rf hF349 (by decide)) (by omega)) (by omega) (Cd_ap p328 (by omega)))
  have hBo376 : Cd (lg2_347 = 0 ∧ lb2_300 < 19999) (Fx [50] (lb + 1) A A345) := Cd_mk (fun hC => Fx_f (Cd_ap hBo343 (by omega)) hF349 (by decide))
  refine jx_ld (pc' := 112) (l' := L45) (st' := [.ref 66]) rfl (jl_aloadn gL45_0) ?_
  refine jx_ar (pc' := 114) (st' := [.int (i32 (8)), .ref 66]) rfl rfl rfl rfl ?_
  refine jx_ar (pc' := 115) (st' := [.int (i32 (1)), .int (i32 (8)), .ref 66]) rfl rfl rfl rfl ?_
  refine jx_vr (pc' := 118) (as := [.int (i32 (8)), .int (i32 (1))]) (st := []) rfl rfl rfl rfl ⟨rfl, rfl, Nat.le_of_ble_eq_true rfl⟩ rfl rfl (c_emit (dd := d) (hd := by omega) (hW := hW348) (fn := 8) (v := 1) (st := st2_346) (e_st := show G344 70 = st2_346 from (e351)) (lg := lg2_347) (e_lg := show G344 79 = lg2_347 from (e352))  (h_fn := ⟨(by decide), (by decide)⟩) (h_v := ⟨(by decide), (by decide)⟩)  (p_0 := by omega) (p_1 := by omega)) (fun o V' hq => ?_)
  obtain ⟨G377, A378, st2_379, lg2_380, rfl, rfl, hW381, hF382, hQ383, e384, e385, p386, p387, p388, p389, p390, p391, -⟩ := hq
  have hF393 := Fr_tr hF360 hF382 (Fr_sub (by decide)) (Fr_sub (by decide))
  have hC394 := Fx_tr hC361 hQ383 (by omega)
  have hAl395 := Fx_f hAl362 hF382 (by decide)
  have hBp396 := Fx_f hBp363 hF382 (by decide)
  have sf397 := FA_fr (hF382.2 51 rfl) sf364
  have sf398 := SA_fr (hF382.2 13 rfl) sf365
  have bst2_379 : (-2147483648 : Int) ≤ st2_379 ∧ st2_379 ≤ 2147483647 := e384 ▸ hW381.1 70
  have blg2_380 : (0 : Int) ≤ lg2_380 ∧ lg2_380 ≤ 1 := e385 ▸ hW381.1 79
  refine .inl ⟨rfl, ?_⟩
  have sf399 : Cd (lg2_380 = 0 ∧ lb2_300 < 19999) (gE T0 A378 F Sn nw (22) (T0 19 (n).toNat) (st) (st2_49) (lb2_28) (lb2_51)) := Cd_mk (fun hC => gE_mv (Cg_fx (l0 := lb2_28) (l1 := lb2_51) hQ383 (Fx_f (w := lb2_51 + 1) Fx_rf hF382 (by decide)) (by omega)) (by omega) (Cd_ap sf366 (by omega)))
  have sf400 : Cd (lg2_380 = 0 ∧ lb2_300 < 19999) (ST A378 (st2_49) (st2_77) (13) (T0 9 (T0 17 (n).toNat).toNat)) := Cd_mk (fun hC => ST_mv (Cg_fx (l0 := 0) (l1 := 0) hQ383 (Fx_f (w := 0 + 1) Fx_rf hF382 (by decide)) (by omega)) (by omega) (Cd_ap sf367 (by omega)))
  have sf401 : Cd (lg2_380 = 0 ∧ lb2_300 < 19999) (gE T0 A378 F Sn nw (22) (T0 20 (n).toNat) (st2_77) (st2_102) (lb2_51) (lb2_104)) := Cd_mk (fun hC => gE_mv (Cg_fx (l0 := lb2_51) (l1 := lb2_104) hQ383 (Fx_f (w := lb2_104 + 1) Fx_rf hF382 (by decide)) (by omega)) (by omega) (Cd_ap sf368 (by omega)))
  have sf402 : Cd (lg2_380 = 0 ∧ lb2_300 < 19999) (ST A378 (st2_102) (st2_132) (13) (T0 9 (T0 17 (n).toNat).toNat + 1)) := Cd_mk (fun hC => ST_mv (Cg_fx (l0 := 0) (l1 := 0) hQ383 (Fx_f (w := 0 + 1) Fx_rf hF382 (by decide)) (by omega)) (by omega) (Cd_ap sf369 (by omega)))
  have sf403 : Cd (lg2_380 = 0 ∧ lb2_300 < 19999) (LZ A378 (r6) (ls2_158) (lb) (lb2_7)) := Cd_mk (fun hC => LZ_mv (Cg_fx (l0 := lb) (l1 := lb2_7) hQ383 (Fx_f (w := lb2_7 + 1) Fx_rf hF382 (by decide)) (by omega)) (by omega) (Cd_ap sf370 (by omega)))
  have sf404 : Cd (lg2_380 = 0 ∧ lb2_300 < 19999) (ST A378 (st2_132) (st2_179) (7) (T0 9 (T0 17 (n).toNat).toNat + 1)) := Cd_mk (fun hC => ST_mv (Cg_fx (l0 := 0) (l1 := 0) hQ383 (Fx_f (w := 0 + 1) Fx_rf hF382 (by decide)) (by omega)) (by omega) (Cd_ap sf371 (by omega)))
  have sf405 : Cd (lg2_380 = 0 ∧ lb2_300 < 19999) (ST A378 (st2_179) (st2_207) (4) (0)) := Cd_mk (fun hC => ST_mv (Cg_fx (l0 := 0) (l1 := 0) hQ383 (Fx_f (w := 0 + 1) Fx_rf hF382 (by decide)) (by omega)) (by omega) (Cd_ap sf372 (by omega)))
  have sf406 : Cd (lg2_380 = 0 ∧ lb2_300 < 19999) (ST A378 (st2_207) (st2_236) (15) (6)) := Cd_mk (fun hC => ST_mv (Cg_fx (l0 := 0) (l1 := 0) hQ383 (Fx_f (w := 0 + 1) Fx_rf hF382 (by decide)) (by omega)) (by omega) (Cd_ap sf373 (by omega)))
  have sf407 : Cd (lg2_380 = 0 ∧ lb2_300 < 19999) (WY A378 (st2_236) (st2_266) (10) (r27) (0)) := Cd_mk (fun hC => WY_mv (Cg_fx (l0 := 0) (l1 := 0) hQ383 (Fx_f (w := 0 + 1) Fx_rf hF382 (by decide)) (by omega)) (by omega) (Cd_ap sf374 (by omega)))
  have sf408 : Cd (lg2_380 = 0 ∧ lb2_300 < 19999) (gP T0 A378 Q (k) (F) (Sn) (nw) (T0 21 (n).toNat) (st2_266) (st2_298) (lb2_104) (lb2_300)) := Cd_mk (fun hC => gP_mv (Cg_fx (l0 := lb2_104) (l1 := lb2_300) hQ383 (Fx_f (w := lb2_300 + 1) Fx_rf hF382 (by decide)) (by omega)) (by omega) (Cd_ap sf375 (by omega)))
  have sf409 : Cd (lg2_380 = 0 ∧ lb2_300 < 19999) (ST A378 (st2_298) (st2_346) (7) (T0 9 (T0 17 (n).toNat).toNat)) := Cd_mk (fun hC => ST_mv (Cg_fx (l0 := 0) (l1 := 0) hQ383 (Fx_f (w := 0 + 1) Fx_rf hF382 (by decide)) (by omega)) (by omega) (Cd_ap p358 (by omega)))
  have hBo410 : Cd (lg2_380 = 0 ∧ lb2_300 < 19999) (Fx [50] (lb + 1) A A378) := Cd_mk (fun hC => Fx_f (Cd_ap hBo376 (by omega)) hF382 (by decide))
  refine jx_ld (pc' := 119) (l' := L45) (st' := [.ref 66]) rfl (jl_aloadn gL45_0) ?_
  refine jx_ar (pc' := 121) (st' := [.int (i32 (13)), .ref 66]) rfl rfl rfl rfl ?_
  refine jx_ld (pc' := 122) (l' := L45) (st' := [.int (i32 (T0 9 (T0 17 (n).toNat).toNat)), .int (i32 (13)), .ref 66]) rfl (jl_iloadn gL45_2) ?_
  refine jx_vr (pc' := 125) (as := [.int (i32 (13)), .int (i32 (T0 9 (T0 17 (n).toNat).toNat))]) (st := []) rfl rfl rfl rfl ⟨rfl, rfl, Nat.le_of_ble_eq_true rfl⟩ rfl rfl (c_emit (dd := d) (hd := by omega) (hW := hW381) (fn := 13) (v := T0 9 (T0 17 (n).toNat).toNat) (st := st2_379) (e_st := show G377 70 = st2_379 from (e384)) (lg := lg2_380) (e_lg := show G377 79 = lg2_380 from (e385))  (h_fn := ⟨(by decide), (by decide)⟩) (h_v := ⟨(Int.le_trans (by decide : (-2147483648 : Int) ≤ -2147483648) b2.1), (Int.le_trans b2.2 (by decide : (2147483647 : Int) ≤ 2147483647))⟩)  (p_0 := by omega) (p_1 := by omega)) (fun o V' hq => ?_)
  obtain ⟨G411, A412, st2_413, lg2_414, rfl, rfl, hW415, hF416, hQ417, e418, e419, p420, p421, p422, p423, p424, p425, -⟩ := hq
  have hF427 := Fr_tr hF393 hF416 (Fr_sub (by decide)) (Fr_sub (by decide))
  have hC428 := Fx_tr hC394 hQ417 (by omega)
  have hAl429 := Fx_f hAl395 hF416 (by decide)
  have hBp430 := Fx_f hBp396 hF416 (by decide)
  have sf431 := FA_fr (hF416.2 51 rfl) sf397
  have sf432 := SA_fr (hF416.2 13 rfl) sf398
  have bst2_413 : (-2147483648 : Int) ≤ st2_413 ∧ st2_413 ≤ 2147483647 := e418 ▸ hW415.1 70
  have blg2_414 : (0 : Int) ≤ lg2_414 ∧ lg2_414 ≤ 1 := e419 ▸ hW415.1 79
  refine .inl ⟨rfl, ?_⟩
  have sf433 : Cd (lg2_414 = 0 ∧ lb2_300 < 19999) (gE T0 A412 F Sn nw (22) (T0 19 (n).toNat) (st) (st2_49) (lb2_28) (lb2_51)) := Cd_mk (fun hC => gE_mv (Cg_fx (l0 := lb2_28) (l1 := lb2_51) hQ417 (Fx_f (w := lb2_51 + 1) Fx_rf hF416 (by decide)) (by omega)) (by omega) (Cd_ap sf399 (by omega)))
  have sf434 : Cd (lg2_414 = 0 ∧ lb2_300 < 19999) (ST A412 (st2_49) (st2_77) (13) (T0 9 (T0 17 (n).toNat).toNat)) := Cd_mk (fun hC => ST_mv (Cg_fx (l0 := 0) (l1 := 0) hQ417 (Fx_f (w := 0 + 1) Fx_rf hF416 (by decide)) (by omega)) (by omega) (Cd_ap sf400 (by omega)))
  have sf435 : Cd (lg2_414 = 0 ∧ lb2_300 < 19999) (gE T0 A412 F Sn nw (22) (T0 20 (n).toNat) (st2_77) (st2_102) (lb2_51) (lb2_104)) := Cd_mk (fun hC => gE_mv (Cg_fx (l0 := lb2_51) (l1 := lb2_104) hQ417 (Fx_f (w := lb2_104 + 1) Fx_rf hF416 (by decide)) (by omega)) (by omega) (Cd_ap sf401 (by omega)))
  have sf436 : Cd (lg2_414 = 0 ∧ lb2_300 < 19999) (ST A412 (st2_102) (st2_132) (13) (T0 9 (T0 17 (n).toNat).toNat + 1)) := Cd_mk (fun hC => ST_mv (Cg_fx (l0 := 0) (l1 := 0) hQ417 (Fx_f (w := 0 + 1) Fx_rf hF416 (by decide)) (by omega)) (by omega) (Cd_ap sf402 (by omega)))
  have sf437 : Cd (lg2_414 = 0 ∧ lb2_300 < 19999) (LZ A412 (r6) (ls2_158) (lb) (lb2_7)) := Cd_mk (fun hC => LZ_mv (Cg_fx (l0 := lb) (l1 := lb2_7) hQ417 (Fx_f (w := lb2_7 + 1) Fx_rf hF416 (by decide)) (by omega)) (by omega) (Cd_ap sf403 (by omega)))
  have sf438 : Cd (lg2_414 = 0 ∧ lb2_300 < 19999) (ST A412 (st2_132) (st2_179) (7) (T0 9 (T0 17 (n).toNat).toNat + 1)) := Cd_mk (fun hC => ST_mv (Cg_fx (l0 := 0) (l1 := 0) hQ417 (Fx_f (w := 0 + 1) Fx_rf hF416 (by decide)) (by omega)) (by omega) (Cd_ap sf404 (by omega)))
  have sf439 : Cd (lg2_414 = 0 ∧ lb2_300 < 19999) (ST A412 (st2_179) (st2_207) (4) (0)) := Cd_mk (fun hC => ST_mv (Cg_fx (l0 := 0) (l1 := 0) hQ417 (Fx_f (w := 0 + 1) Fx_rf hF416 (by decide)) (by omega)) (by omega) (Cd_ap sf405 (by omega)))
  have sf440 : Cd (lg2_414 = 0 ∧ lb2_300 < 19999) (ST A412 (st2_207) (st2_236) (15) (6)) := Cd_mk (fun hC => ST_mv (Cg_fx (l0 := 0) (l1 := 0) hQ417 (Fx_f (w := 0 + 1) Fx_rf hF416 (by decide)) (by omega)) (by omega) (Cd_ap sf406 (by omega)))
  have sf441 : Cd (lg2_414 = 0 ∧ lb2_300 < 19999) (WY A412 (st2_236) (st2_266) (10) (r27) (0)) := Cd_mk (fun hC => WY_mv (Cg_fx (l0 := 0) (l1 := 0) hQ417 (Fx_f (w := 0 + 1) Fx_rf hF416 (by decide)) (by omega)) (by omega) (Cd_ap sf407 (by omega)))
  have sf442 : Cd (lg2_414 = 0 ∧ lb2_300 < 19999) (gP T0 A412 Q (k) (F) (Sn) (nw) (T0 21 (n).toNat) (st2_266) (st2_298) (lb2_104) (lb2_300)) := Cd_mk (fun hC => gP_mv (Cg_fx (l0 := lb2_104) (l1 := lb2_300) hQ417 (Fx_f (w := lb2_300 + 1) Fx_rf hF416 (by decide)) (by omega)) (by omega) (Cd_ap sf408 (by omega)))
  have sf443 : Cd (lg2_414 = 0 ∧ lb2_300 < 19999) (ST A412 (st2_298) (st2_346) (7) (T0 9 (T0 17 (n).toNat).toNat)) := Cd_mk (fun hC => ST_mv (Cg_fx (l0 := 0) (l1 := 0) hQ417 (Fx_f (w := 0 + 1) Fx_rf hF416 (by decide)) (by omega)) (by omega) (Cd_ap sf409 (by omega)))
  have sf444 : Cd (lg2_414 = 0 ∧ lb2_300 < 19999) (ST A412 (st2_346) (st2_379) (8) (1)) := Cd_mk (fun hC => ST_mv (Cg_fx (l0 := 0) (l1 := 0) hQ417 (Fx_f (w := 0 + 1) Fx_rf hF416 (by decide)) (by omega)) (by omega) (Cd_ap p391 (by omega)))
  have hBo445 : Cd (lg2_414 = 0 ∧ lb2_300 < 19999) (Fx [50] (lb + 1) A A412) := Cd_mk (fun hC => Fx_f (Cd_ap hBo410 (by omega)) hF416 (by decide))
  refine jx_ld (pc' := 126) (l' := L45) (st' := [.ref 66]) rfl (jl_aloadn gL45_0) ?_
  refine jx_ar (pc' := 128) (st' := [.int (i32 (7)), .ref 66]) rfl rfl rfl rfl ?_
  refine jx_ld (pc' := 129) (l' := L45) (st' := [.int (i32 (T0 9 (T0 17 (n).toNat).toNat)), .int (i32 (7)), .ref 66]) rfl (jl_iloadn gL45_2) ?_
  refine jx_ar (pc' := 130) (st' := [.int (i32 (1)), .int (i32 (T0 9 (T0 17 (n).toNat).toNat)), .int (i32 (7)), .ref 66]) rfl rfl rfl rfl ?_
  refine jx_add (pc' := 131) rfl rfl ?_
  refine jx_vr (pc' := 134) (as := [.int (i32 (7)), .int (i32 ((T0 9 (T0 17 (n).toNat).toNat + 1)))]) (st := []) rfl rfl rfl rfl ⟨rfl, rfl, Nat.le_of_ble_eq_true rfl⟩ rfl rfl (c_emit (dd := d) (hd := by omega) (hW := hW415) (fn := 7) (v := (T0 9 (T0 17 (n).toNat).toNat + 1)) (st := st2_413) (e_st := show G411 70 = st2_413 from (e418)) (lg := lg2_414) (e_lg := show G411 79 = lg2_414 from (e419))  (h_fn := ⟨(by decide), (by decide)⟩) (h_v := ⟨(by omega), (by omega)⟩)  (p_0 := by omega) (p_1 := by omega)) (fun o V' hq => ?_)
  obtain ⟨G446, A447, st2_448, lg2_449, rfl, rfl, hW450, hF451, hQ452, e453, e454, p455, p456, p457, p458, p459, p460, -⟩ := hq
  have hF462 := Fr_tr hF427 hF451 (Fr_sub (by decide)) (Fr_sub (by decide))
  have hC463 := Fx_tr hC428 hQ452 (by omega)
  have hAl464 := Fx_f hAl429 hF451 (by decide)
  have hBp465 := Fx_f hBp430 hF451 (by decide)
  have sf466 := FA_fr (hF451.2 51 rfl) sf431
  have sf467 := SA_fr (hF451.2 13 rfl) sf432
  have bst2_448 : (-2147483648 : Int) ≤ st2_448 ∧ st2_448 ≤ 2147483647 := e453 ▸ hW450.1 70
  have blg2_449 : (0 : Int) ≤ lg2_449 ∧ lg2_449 ≤ 1 := e454 ▸ hW450.1 79
  refine .inl ⟨rfl, ?_⟩
  have sf468 : Cd (lg2_449 = 0 ∧ lb2_300 < 19999) (gE T0 A447 F Sn nw (22) (T0 19 (n).toNat) (st) (st2_49) (lb2_28) (lb2_51)) := Cd_mk (fun hC => gE_mv (Cg_fx (l0 := lb2_28) (l1 := lb2_51) hQ452 (Fx_f (w := lb2_51 + 1) Fx_rf hF451 (by decide)) (by omega)) (by omega) (Cd_ap sf433 (by omega)))
  have sf469 : Cd (lg2_449 = 0 ∧ lb2_300 < 19999) (ST A447 (st2_49) (st2_77) (13) (T0 9 (T0 17 (n).toNat).toNat)) := Cd_mk (fun hC => ST_mv (Cg_fx (l0 := 0) (l1 := 0) hQ452 (Fx_f (w := 0 + 1) Fx_rf hF451 (by decide)) (by omega)) (by omega) (Cd_ap sf434 (by omega)))
  have sf470 : Cd (lg2_449 = 0 ∧ lb2_300 < 19999) (gE T0 A447 F Sn nw (22) (T0 20 (n).toNat) (st2_77) (st2_102) (lb2_51) (lb2_104)) := Cd_mk (fun hC => gE_mv (Cg_fx (l0 := lb2_51) (l1 := lb2_104) hQ452 (Fx_f (w := lb2_104 + 1) Fx_rf hF451 (by decide)) (by omega)) (by omega) (Cd_ap sf435 (by omega)))
  have sf471 : Cd (lg2_449 = 0 ∧ lb2_300 < 19999) (ST A447 (st2_102) (st2_132) (13) (T0 9 (T0 17 (n).toNat).toNat + 1)) := Cd_mk (fun hC => ST_mv (Cg_fx (l0 := 0) (l1 := 0) hQ452 (Fx_f (w := 0 + 1) Fx_rf hF451 (by decide)) (by omega)) (by omega) (Cd_ap sf436 (by omega)))
  have sf472 : Cd (lg2_449 = 0 ∧ lb2_300 < 19999) (LZ A447 (r6) (ls2_158) (lb) (lb2_7)) := Cd_mk (fun hC => LZ_mv (Cg_fx (l0 := lb) (l1 := lb2_7) hQ452 (Fx_f (w := lb2_7 + 1) Fx_rf hF451 (by decide)) (by omega)) (by omega) (Cd_ap sf437 (by omega)))
  have sf473 : Cd (lg2_449 = 0 ∧ lb2_300 < 19999) (ST A447 (st2_132) (st2_179) (7) (T0 9 (T0 17 (n).toNat).toNat + 1)) := Cd_mk (fun hC => ST_mv (Cg_fx (l0 := 0) (l1 := 0) hQ452 (Fx_f (w := 0 + 1) Fx_rf hF451 (by decide)) (by omega)) (by omega) (Cd_ap sf438 (by omega)))
  have sf474 : Cd (lg2_449 = 0 ∧ lb2_300 < 19999) (ST A447 (st2_179) (st2_207) (4) (0)) := Cd_mk (fun hC => ST_mv (Cg_fx (l0 := 0) (l1 := 0) hQ452 (Fx_f (w := 0 + 1) Fx_rf hF451 (by decide)) (by omega)) (by omega) (Cd_ap sf439 (by omega)))
  have sf475 : Cd (lg2_449 = 0 ∧ lb2_300 < 19999) (ST A447 (st2_207) (st2_236) (15) (6)) := Cd_mk (fun hC => ST_mv (Cg_fx (l0 := 0) (l1 := 0) hQ452 (Fx_f (w := 0 + 1) Fx_rf hF451 (by decide)) (by omega)) (by omega) (Cd_ap sf440 (by omega)))
  have sf476 : Cd (lg2_449 = 0 ∧ lb2_300 < 19999) (WY A447 (st2_236) (st2_266) (10) (r27) (0)) := Cd_mk (fun hC => WY_mv (Cg_fx (l0 := 0) (l1 := 0) hQ452 (Fx_f (w := 0 + 1) Fx_rf hF451 (by decide)) (by omega)) (by omega) (Cd_ap sf441 (by omega)))
  have sf477 : Cd (lg2_449 = 0 ∧ lb2_300 < 19999) (gP T0 A447 Q (k) (F) (Sn) (nw) (T0 21 (n).toNat) (st2_266) (st2_298) (lb2_104) (lb2_300)) := Cd_mk (fun hC => gP_mv (Cg_fx (l0 := lb2_104) (l1 := lb2_300) hQ452 (Fx_f (w := lb2_300 + 1) Fx_rf hF451 (by decide)) (by omega)) (by omega) (Cd_ap sf442 (by omega)))
  have sf478 : Cd (lg2_449 = 0 ∧ lb2_300 < 19999) (ST A447 (st2_298) (st2_346) (7) (T0 9 (T0 17 (n).toNat).toNat)) := Cd_mk (fun hC => ST_mv (Cg_fx (l0 := 0) (l1 := 0) hQ452 (Fx_f (w := 0 + 1) Fx_rf hF451 (by decide)) (by omega)) (by omega) (Cd_ap sf443 (by omega)))
  have sf479 : Cd (lg2_449 = 0 ∧ lb2_300 < 19999) (ST A447 (st2_346) (st2_379) (8) (1)) := Cd_mk (fun hC => ST_mv (Cg_fx (l0 := 0) (l1 := 0) hQ452 (Fx_f (w := 0 + 1) Fx_rf hF451 (by decide)) (by omega)) (by omega) (Cd_ap sf444 (by omega)))
  have sf480 : Cd (lg2_449 = 0 ∧ lb2_300 < 19999) (ST A447 (st2_379) (st2_413) (13) (T0 9 (T0 17 (n).toNat).toNat)) := Cd_mk (fun hC => ST_mv (Cg_fx (l0 := 0) (l1 := 0) hQ452 (Fx_f (w := 0 + 1) Fx_rf hF451 (by decide)) (by omega)) (by omega) (Cd_ap p425 (by omega)))
  have hBo481 : Cd (lg2_449 = 0 ∧ lb2_300 < 19999) (Fx [50] (lb + 1) A A447) := Cd_mk (fun hC => Fx_f (Cd_ap hBo445 (by omega)) hF451 (by decide))
  refine jx_ld (pc' := 135) (l' := L45) (st' := [.ref 66]) rfl (jl_aloadn gL45_0) ?_
  refine jx_ar (pc' := 137) (st' := [.int (i32 (8)), .ref 66]) rfl rfl rfl rfl ?_
  refine jx_ar (pc' := 138) (st' := [.int (i32 (-1)), .int (i32 (8)), .ref 66]) rfl rfl rfl rfl ?_
  refine jx_vr (pc' := 141) (as := [.int (i32 (8)), .int (i32 (-1))]) (st := []) rfl rfl rfl rfl ⟨rfl, rfl, Nat.le_of_ble_eq_true rfl⟩ rfl rfl (c_emit (dd := d) (hd := by omega) (hW := hW450) (fn := 8) (v := -1) (st := st2_448) (e_st := show G446 70 = st2_448 from (e453)) (lg := lg2_449) (e_lg := show G446 79 = lg2_449 from (e454))  (h_fn := ⟨(by decide), (by decide)⟩) (h_v := ⟨(by decide), (by decide)⟩)  (p_0 := by omega) (p_1 := by omega)) (fun o V' hq => ?_)
  obtain ⟨G482, A483, st2_484, lg2_485, rfl, rfl, hW486, hF487, hQ488, e489, e490, p491, p492, p493, p494, p495, p496, -⟩ := hq
  have hF498 := Fr_tr hF462 hF487 (Fr_sub (by decide)) (Fr_sub (by decide))
  have hC499 := Fx_tr hC463 hQ488 (by omega)
  have hAl500 := Fx_f hAl464 hF487 (by decide)
  have hBp501 := Fx_f hBp465 hF487 (by decide)
  have sf502 := FA_fr (hF487.2 51 rfl) sf466
  have sf503 := SA_fr (hF487.2 13 rfl) sf467
  have bst2_484 : (-2147483648 : Int) ≤ st2_484 ∧ st2_484 ≤ 2147483647 := e489 ▸ hW486.1 70
  have blg2_485 : (0 : Int) ≤ lg2_485 ∧ lg2_485 ≤ 1 := e490 ▸ hW486.1 79
  refine .inl ⟨rfl, ?_⟩
  have sf504 : Cd (lg2_485 = 0 ∧ lb2_300 < 19999) (gE T0 A483 F Sn nw (22) (T0 19 (n).toNat) (st) (st2_49) (lb2_28) (lb2_51)) := Cd_mk (fun hC => gE_mv (Cg_fx (l0 := lb2_28) (l1 := lb2_51) hQ488 (Fx_f (w := lb2_51 + 1) Fx_rf hF487 (by decide)) (by omega)) (by omega) (Cd_ap sf468 (by omega)))
  have sf505 : Cd (lg2_485 = 0 ∧ lb2_300 < 19999) (ST A483 (st2_49) (st2_77) (13) (T0 9 (T0 17 (n).toNat).toNat)) := Cd_mk (fun hC => ST_mv (Cg_fx (l0 := 0) (l1 := 0) hQ488 (Fx_f (w := 0 + 1) Fx_rf hF487 (by decide)) (by omega)) (by omega) (Cd_ap sf469 (by omega)))
  have sf506 : Cd (lg2_485 = 0 ∧ lb2_300 < 19999) (gE T0 A483 F Sn nw (22) (T0 20 (n).toNat) (st2_77) (st2_102) (lb2_51) (lb2_104)) := Cd_mk (fun hC => gE_mv (Cg_fx (l0 := lb2_51) (l1 := lb2_104) hQ488 (Fx_f (w := lb2_104 + 1) Fx_rf hF487 (by decide)) (by omega)) (by omega) (Cd_ap sf470 (by omega)))
  have sf507 : Cd (lg2_485 = 0 ∧ lb2_300 < 19999) (ST A483 (st2_102) (st2_132) (13) (T0 9 (T0 17 (n).toNat).toNat + 1)) := Cd_mk (fun hC => ST_mv (Cg_fx (l0 := 0) (l1 := 0) hQ488 (Fx_f (w := 0 + 1) Fx_rf hF487 (by decide)) (by omega)) (by omega) (Cd_ap sf471 (by omega)))
  have sf508 : Cd (lg2_485 = 0 ∧ lb2_300 < 19999) (LZ A483 (r6) (ls2_158) (lb) (lb2_7)) := Cd_mk (fun hC => LZ_mv (Cg_fx (l0 := lb) (l1 := lb2_7) hQ488 (Fx_f (w := lb2_7 + 1) Fx_rf hF487 (by decide)) (by omega)) (by omega) (Cd_ap sf472 (by omega)))
  have sf509 : Cd (lg2_485 = 0 ∧ lb2_300 < 19999) (ST A483 (st2_132) (st2_179) (7) (T0 9 (T0 17 (n).toNat).toNat + 1)) := Cd_mk (fun hC => ST_mv (Cg_fx (l0 := 0) (l1 := 0) hQ488 (Fx_f (w := 0 + 1) Fx_rf hF487 (by decide)) (by omega)) (by omega) (Cd_ap sf473 (by omega)))
  have sf510 : Cd (lg2_485 = 0 ∧ lb2_300 < 19999) (ST A483 (st2_179) (st2_207) (4) (0)) := Cd_mk (fun hC => ST_mv (Cg_fx (l0 := 0) (l1 := 0) hQ488 (Fx_f (w := 0 + 1) Fx_rf hF487 (by decide)) (by omega)) (by omega) (Cd_ap sf474 (by omega)))
  have sf511 : Cd (lg2_485 = 0 ∧ lb2_300 < 19999) (ST A483 (st2_207) (st2_236) (15) (6)) := Cd_mk (fun hC => ST_mv (Cg_fx (l0 := 0) (l1 := 0) hQ488 (Fx_f (w := 0 + 1) Fx_rf hF487 (by decide)) (by omega)) (by omega) (Cd_ap sf475 (by omega)))
  have sf512 : Cd (lg2_485 = 0 ∧ lb2_300 < 19999) (WY A483 (st2_236) (st2_266) (10) (r27) (0)) := Cd_mk (fun hC => WY_mv (Cg_fx (l0 := 0) (l1 := 0) hQ488 (Fx_f (w := 0 + 1) Fx_rf hF487 (by decide)) (by omega)) (by omega) (Cd_ap sf476 (by omega)))
  have sf513 : Cd (lg2_485 = 0 ∧ lb2_300 < 19999) (gP T0 A483 Q (k) (F) (Sn) (nw) (T0 21 (n).toNat) (st2_266) (st2_298) (lb2_104) (lb2_300)) := Cd_mk (fun hC => gP_mv (Cg_fx (l0 := lb2_104) (l1 := lb2_300) hQ488 (Fx_f (w := lb2_300 + 1) Fx_rf hF487 (by decide)) (by omega)) (by omega) (Cd_ap sf477 (by omega)))
  have sf514 : Cd (lg2_485 = 0 ∧ lb2_300 < 19999) (ST A483 (st2_298) (st2_346) (7) (T0 9 (T0 17 (n).toNat).toNat)) := Cd_mk (fun hC => ST_mv (Cg_fx (l0 := 0) (l1 := 0) hQ488 (Fx_f (w := 0 + 1) Fx_rf hF487 (by decide)) (by omega)) (by omega) (Cd_ap sf478 (by omega)))
  have sf515 : Cd (lg2_485 = 0 ∧ lb2_300 < 19999) (ST A483 (st2_346) (st2_379) (8) (1)) := Cd_mk (fun hC => ST_mv (Cg_fx (l0 := 0) (l1 := 0) hQ488 (Fx_f (w := 0 + 1) Fx_rf hF487 (by decide)) (by omega)) (by omega) (Cd_ap sf479 (by omega)))
  have sf516 : Cd (lg2_485 = 0 ∧ lb2_300 < 19999) (ST A483 (st2_379) (st2_413) (13) (T0 9 (T0 17 (n).toNat).toNat)) := Cd_mk (fun hC => ST_mv (Cg_fx (l0 := 0) (l1 := 0) hQ488 (Fx_f (w := 0 + 1) Fx_rf hF487 (by decide)) (by omega)) (by omega) (Cd_ap sf480 (by omega)))
  have sf517 : Cd (lg2_485 = 0 ∧ lb2_300 < 19999) (ST A483 (st2_413) (st2_448) (7) (T0 9 (T0 17 (n).toNat).toNat + 1)) := Cd_mk (fun hC => ST_mv (Cg_fx (l0 := 0) (l1 := 0) hQ488 (Fx_f (w := 0 + 1) Fx_rf hF487 (by decide)) (by omega)) (by omega) (Cd_ap p460 (by omega)))
  have hBo518 : Cd (lg2_485 = 0 ∧ lb2_300 < 19999) (Fx [50] (lb + 1) A A483) := Cd_mk (fun hC => Fx_f (Cd_ap hBo481 (by omega)) hF487 (by decide))
  refine jx_ld (pc' := 142) (l' := L45) (st' := [.ref 66]) rfl (jl_aloadn gL45_0) ?_
  refine jx_ar (pc' := 144) (st' := [.int (i32 (13)), .ref 66]) rfl rfl rfl rfl ?_
  refine jx_ld (pc' := 145) (l' := L45) (st' := [.int (i32 (T0 9 (T0 17 (n).toNat).toNat)), .int (i32 (13)), .ref 66]) rfl (jl_iloadn gL45_2) ?_
  refine jx_ar (pc' := 146) (st' := [.int (i32 (1)), .int (i32 (T0 9 (T0 17 (n).toNat).toNat)), .int (i32 (13)), .ref 66]) rfl rfl rfl rfl ?_
  refine jx_add (pc' := 147) rfl rfl ?_
  refine jx_vr (pc' := 150) (as := [.int (i32 (13)), .int (i32 ((T0 9 (T0 17 (n).toNat).toNat + 1)))]) (st := []) rfl rfl rfl rfl ⟨rfl, rfl, Nat.le_of_ble_eq_true rfl⟩ rfl rfl (c_emit (dd := d) (hd := by omega) (hW := hW486) (fn := 13) (v := (T0 9 (T0 17 (n).toNat).toNat + 1)) (st := st2_484) (e_st := show G482 70 = st2_484 from (e489)) (lg := lg2_485) (e_lg := show G482 79 = lg2_485 from (e490))  (h_fn := ⟨(by decide), (by decide)⟩) (h_v := ⟨(by omega), (by omega)⟩)  (p_0 := by omega) (p_1 := by omega)) (fun o V' hq => ?_)
  obtain ⟨G519, A520, st2_521, lg2_522, rfl, rfl, hW523, hF524, hQ525, e526, e527, p528, p529, p530, p531, p532, p533, -⟩ := hq
  have hF535 := Fr_tr hF498 hF524 (Fr_sub (by decide)) (Fr_sub (by decide))
  have hC536 := Fx_tr hC499 hQ525 (by omega)
  have hAl537 := Fx_f hAl500 hF524 (by decide)
  have hBp538 := Fx_f hBp501 hF524 (by decide)
  have sf539 := FA_fr (hF524.2 51 rfl) sf502
  have sf540 := SA_fr (hF524.2 13 rfl) sf503
  have bst2_521 : (-2147483648 : Int) ≤ st2_521 ∧ st2_521 ≤ 2147483647 := e526 ▸ hW523.1 70
  have blg2_522 : (0 : Int) ≤ lg2_522 ∧ lg2_522 ≤ 1 := e527 ▸ hW523.1 79
  refine .inl ⟨rfl, ?_⟩
  have sf541 : Cd (lg2_522 = 0 ∧ lb2_300 < 19999) (gE T0 A520 F Sn nw (22) (T0 19 (n).toNat) (st) (st2_49) (lb2_28) (lb2_51)) := Cd_mk (fun hC => gE_mv (Cg_fx (l0 := lb2_28) (l1 := lb2_51) hQ525 (Fx_f (w := lb2_51 + 1) Fx_rf hF524 (by decide)) (by omega)) (by omega) (Cd_ap sf504 (by omega)))
  have sf542 : Cd (lg2_522 = 0 ∧ lb2_300 < 19999) (ST A520 (st2_49) (st2_77) (13) (T0 9 (T0 17 (n).toNat).toNat)) := Cd_mk (fun hC => ST_mv (Cg_fx (l0 := 0) (l1 := 0) hQ525 (Fx_f (w := 0 + 1) Fx_rf hF524 (by decide)) (by omega)) (by omega) (Cd_ap sf505 (by omega)))
  have sf543 : Cd (lg2_522 = 0 ∧ lb2_300 < 19999) (gE T0 A520 F Sn nw (22) (T0 20 (n).toNat) (st2_77) (st2_102) (lb2_51) (lb2_104)) := Cd_mk (fun hC => gE_mv (Cg_fx (l0 := lb2_51) (l1 := lb2_104) hQ525 (Fx_f (w := lb2_104 + 1) Fx_rf hF524 (by decide)) (by omega)) (by omega) (Cd_ap sf506 (by omega)))
  have sf544 : Cd (lg2_522 = 0 ∧ lb2_300 < 19999) (ST A520 (st2_102) (st2_132) (13) (T0 9 (T0 17 (n).toNat).toNat + 1)) := Cd_mk (fun hC => ST_mv (Cg_fx (l0 := 0) (l1 := 0) hQ525 (Fx_f (w := 0 + 1) Fx_rf hF524 (by decide)) (by omega)) (by omega) (Cd_ap sf507 (by omega)))
  have sf545 : Cd (lg2_522 = 0 ∧ lb2_300 < 19999) (LZ A520 (r6) (ls2_158) (lb) (lb2_7)) := Cd_mk (fun hC => LZ_mv (Cg_fx (l0 := lb) (l1 := lb2_7) hQ525 (Fx_f (w := lb2_7 + 1) Fx_rf hF524 (by decide)) (by omega)) (by omega) (Cd_ap sf508 (by omega)))
  have sf546 : Cd (lg2_522 = 0 ∧ lb2_300 < 19999) (ST A520 (st2_132) (st2_179) (7) (T0 9 (T0 17 (n).toNat).toNat + 1)) := Cd_mk (fun hC => ST_mv (Cg_fx (l0 := 0) (l1 := 0) hQ525 (Fx_f (w := 0 + 1) Fx_rf hF524 (by decide)) (by omega)) (by omega) (Cd_ap sf509 (by omega)))
  have sf547 : Cd (lg2_522 = 0 ∧ lb2_300 < 19999) (ST A520 (st2_179) (st2_207) (4) (0)) := Cd_mk (fun hC => ST_mv (Cg_fx (l0 := 0) (l1 := 0) hQ525 (Fx_f (w := 0 + 1) Fx_rf hF524 (by decide)) (by omega)) (by omega) (Cd_ap sf510 (by omega)))
  have sf548 : Cd (lg2_522 = 0 ∧ lb2_300 < 19999) (ST A520 (st2_207) (st2_236) (15) (6)) := Cd_mk (fun hC => ST_mv (Cg_fx (l0 := 0) (l1 := 0) hQ525 (Fx_f (w := 0 + 1) Fx_rf hF524 (by decide)) (by omega)) (by omega) (Cd_ap sf511 (by omega)))
  have sf549 : Cd (lg2_522 = 0 ∧ lb2_300 < 19999) (WY A520 (st2_236) (st2_266) (10) (r27) (0)) := Cd_mk (fun hC => WY_mv (Cg_fx (l0 := 0) (l1 := 0) hQ525 (Fx_f (w := 0 + 1) Fx_rf hF524 (by decide)) (by omega)) (by omega) (Cd_ap sf512 (by omega)))
  have sf550 : Cd (lg2_522 = 0 ∧ lb2_300 < 19999) (gP T0 A520 Q (k) (F) (Sn) (nw) (T0 21 (n).toNat) (st2_266) (st2_298) (lb2_104) (lb2_300)) := Cd_mk (fun hC => gP_mv (Cg_fx (l0 := lb2_104) (l1 := lb2_300) hQ525 (Fx_f (w := lb2_300 + 1) Fx_rf hF524 (by decide)) (by omega)) (by omega) (Cd_ap sf513 (by omega)))
  have sf551 : Cd (lg2_522 = 0 ∧ lb2_300 < 19999) (ST A520 (st2_298) (st2_346) (7) (T0 9 (T0 17 (n).toNat).toNat)) := Cd_mk (fun hC => ST_mv (Cg_fx (l0 := 0) (l1 := 0) hQ525 (Fx_f (w := 0 + 1) Fx_rf hF524 (by decide)) (by omega)) (by omega) (Cd_ap sf514 (by omega)))
  have sf552 : Cd (lg2_522 = 0 ∧ lb2_300 < 19999) (ST A520 (st2_346) (st2_379) (8) (1)) := Cd_mk (fun hC => ST_mv (Cg_fx (l0 := 0) (l1 := 0) hQ525 (Fx_f (w := 0 + 1) Fx_rf hF524 (by decide)) (by omega)) (by omega) (Cd_ap sf515 (by omega)))
  have sf553 : Cd (lg2_522 = 0 ∧ lb2_300 < 19999) (ST A520 (st2_379) (st2_413) (13) (T0 9 (T0 17 (n).toNat).toNat)) := Cd_mk (fun hC => ST_mv (Cg_fx (l0 := 0) (l1 := 0) hQ525 (Fx_f (w := 0 + 1) Fx_rf hF524 (by decide)) (by omega)) (by omega) (Cd_ap sf516 (by omega)))
  have sf554 : Cd (lg2_522 = 0 ∧ lb2_300 < 19999) (ST A520 (st2_413) (st2_448) (7) (T0 9 (T0 17 (n).toNat).toNat + 1)) := Cd_mk (fun hC => ST_mv (Cg_fx (l0 := 0) (l1 := 0) hQ525 (Fx_f (w := 0 + 1) Fx_rf hF524 (by decide)) (by omega)) (by omega) (Cd_ap sf517 (by omega)))
  have sf555 : Cd (lg2_522 = 0 ∧ lb2_300 < 19999) (ST A520 (st2_448) (st2_484) (8) (-1)) := Cd_mk (fun hC => ST_mv (Cg_fx (l0 := 0) (l1 := 0) hQ525 (Fx_f (w := 0 + 1) Fx_rf hF524 (by decide)) (by omega)) (by omega) (Cd_ap p496 (by omega)))
  have hBo556 : Cd (lg2_522 = 0 ∧ lb2_300 < 19999) (Fx [50] (lb + 1) A A520) := Cd_mk (fun hC => Fx_f (Cd_ap hBo518 (by omega)) hF524 (by decide))
  refine jx_ld (pc' := 151) (l' := L45) (st' := [.ref 66]) rfl (jl_aloadn gL45_0) ?_
  refine jx_ar (pc' := 152) (st' := [.int (i32 (0)), .ref 66]) rfl rfl rfl rfl ?_
  refine jx_ld (pc' := 153) (l' := L45) (st' := [.int (i32 (r6)), .int (i32 (0)), .ref 66]) rfl (jl_iloadn gL45_3) ?_
  refine jx_ar (pc' := 154) (st' := [.int (i32 (0)), .int (i32 (r6)), .int (i32 (0)), .ref 66]) rfl rfl rfl rfl ?_
  refine jx_vr (pc' := 157) (as := [.int (i32 (0)), .int (i32 (r6)), .int (i32 (0))]) (st := []) rfl rfl rfl rfl ⟨rfl, rfl, Nat.le_of_ble_eq_true rfl⟩ rfl rfl (c_way (dd := d) (hd := by omega) (hW := hW523) (fn := 0) (to := r6) (fr := 0) (st := st2_521) (e_st := show G519 70 = st2_521 from (e526)) (lg := lg2_522) (e_lg := show G519 79 = lg2_522 from (e527))  (h_fn := ⟨(by decide), (by decide)⟩) (h_to := ⟨(Int.le_trans (by decide : (-2147483648 : Int) ≤ -2147483648) b10.1), (Int.le_trans b10.2 (by decide : (2147483647 : Int) ≤ 2147483647))⟩) (h_fr := ⟨(by decide), (by decide)⟩)  (p_0 := by omega) (p_1 := by omega)) (fun o V' hq => ?_)
  obtain ⟨G557, A558, st2_559, lg2_560, rfl, rfl, hW561, hF562, hQ563, e564, e565, p566, p567, p568, p569, p570, p571, -⟩ := hq
  have hF573 := Fr_tr hF535 hF562 (Fr_sub (by decide)) (Fr_sub (by decide))
  have hC574 := Fx_tr hC536 hQ563 (by omega)
  have hAl575 := Fx_f hAl537 hF562 (by decide)
  have hBp576 := Fx_f hBp538 hF562 (by decide)
  have sf577 := FA_fr (hF562.2 51 rfl) sf539
  have sf578 := SA_fr (hF562.2 13 rfl) sf540
  have bst2_559 : (-2147483648 : Int) ≤ st2_559 ∧ st2_559 ≤ 2147483647 := e564 ▸ hW561.1 70
  have blg2_560 : (0 : Int) ≤ lg2_560 ∧ lg2_560 ≤ 1 := e565 ▸ hW561.1 79
  refine .inl ⟨rfl, ?_⟩
  have sf579 : Cd (lg2_560 = 0 ∧ lb2_300 < 19999) (gE T0 A558 F Sn nw (22) (T0 19 (n).toNat) (st) (st2_49) (lb2_28) (lb2_51)) := Cd_mk (fun hC => gE_mv (Cg_fx (l0 := lb2_28) (l1 := lb2_51) hQ563 (Fx_f (w := lb2_51 + 1) Fx_rf hF562 (by decide)) (by omega)) (by omega) (Cd_ap sf541 (by omega)))
  have sf580 : Cd (lg2_560 = 0 ∧ lb2_300 < 19999) (ST A558 (st2_49) (st2_77) (13) (T0 9 (T0 17 (n).toNat).toNat)) := Cd_mk (fun hC => ST_mv (Cg_fx (l0 := 0) (l1 := 0) hQ563 (Fx_f (w := 0 + 1) Fx_rf hF562 (by decide)) (by omega)) (by omega) (Cd_ap sf542 (by omega)))
  have sf581 : Cd (lg2_560 = 0 ∧ lb2_300 < 19999) (gE T0 A558 F Sn nw (22) (T0 20 (n).toNat) (st2_77) (st2_102) (lb2_51) (lb2_104)) := Cd_mk (fun hC => gE_mv (Cg_fx (l0 := lb2_51) (l1 := lb2_104) hQ563 (Fx_f (w := lb2_104 + 1) Fx_rf hF562 (by decide)) (by omega)) (by omega) (Cd_ap sf543 (by omega)))
  have sf582 : Cd (lg2_560 = 0 ∧ lb2_300 < 19999) (ST A558 (st2_102) (st2_132) (13) (T0 9 (T0 17 (n).toNat).toNat + 1)) := Cd_mk (fun hC => ST_mv (Cg_fx (l0 := 0) (l1 := 0) hQ563 (Fx_f (w := 0 + 1) Fx_rf hF562 (by decide)) (by omega)) (by omega) (Cd_ap sf544 (by omega)))
  have sf583 : Cd (lg2_560 = 0 ∧ lb2_300 < 19999) (LZ A558 (r6) (ls2_158) (lb) (lb2_7)) := Cd_mk (fun hC => LZ_mv (Cg_fx (l0 := lb) (l1 := lb2_7) hQ563 (Fx_f (w := lb2_7 + 1) Fx_rf hF562 (by decide)) (by omega)) (by omega) (Cd_ap sf545 (by omega)))
  have sf584 : Cd (lg2_560 = 0 ∧ lb2_300 < 19999) (ST A558 (st2_132) (st2_179) (7) (T0 9 (T0 17 (n).toNat).toNat + 1)) := Cd_mk (fun hC => ST_mv (Cg_fx (l0 := 0) (l1 := 0) hQ563 (Fx_f (w := 0 + 1) Fx_rf hF562 (by decide)) (by omega)) (by omega) (Cd_ap sf546 (by omega)))
  have sf585 : Cd (lg2_560 = 0 ∧ lb2_300 < 19999) (ST A558 (st2_179) (st2_207) (4) (0)) := Cd_mk (fun hC => ST_mv (Cg_fx (l0 := 0) (l1 := 0) hQ563 (Fx_f (w := 0 + 1) Fx_rf hF562 (by decide)) (by omega)) (by omega) (Cd_ap sf547 (by omega)))
  have sf586 : Cd (lg2_560 = 0 ∧ lb2_300 < 19999) (ST A558 (st2_207) (st2_236) (15) (6)) := Cd_mk (fun hC => ST_mv (Cg_fx (l0 := 0) (l1 := 0) hQ563 (Fx_f (w := 0 + 1) Fx_rf hF562 (by decide)) (by omega)) (by omega) (Cd_ap sf548 (by omega)))
  have sf587 : Cd (lg2_560 = 0 ∧ lb2_300 < 19999) (WY A558 (st2_236) (st2_266) (10) (r27) (0)) := Cd_mk (fun hC => WY_mv (Cg_fx (l0 := 0) (l1 := 0) hQ563 (Fx_f (w := 0 + 1) Fx_rf hF562 (by decide)) (by omega)) (by omega) (Cd_ap sf549 (by omega)))
  have sf588 : Cd (lg2_560 = 0 ∧ lb2_300 < 19999) (gP T0 A558 Q (k) (F) (Sn) (nw) (T0 21 (n).toNat) (st2_266) (st2_298) (lb2_104) (lb2_300)) := Cd_mk (fun hC => gP_mv (Cg_fx (l0 := lb2_104) (l1 := lb2_300) hQ563 (Fx_f (w := lb2_300 + 1) Fx_rf hF562 (by decide)) (by omega)) (by omega) (Cd_ap sf550 (by omega)))
  have sf589 : Cd (lg2_560 = 0 ∧ lb2_300 < 19999) (ST A558 (st2_298) (st2_346) (7) (T0 9 (T0 17 (n).toNat).toNat)) := Cd_mk (fun hC => ST_mv (Cg_fx (l0 := 0) (l1 := 0) hQ563 (Fx_f (w := 0 + 1) Fx_rf hF562 (by decide)) (by omega)) (by omega) (Cd_ap sf551 (by omega)))
  have sf590 : Cd (lg2_560 = 0 ∧ lb2_300 < 19999) (ST A558 (st2_346) (st2_379) (8) (1)) := Cd_mk (fun hC => ST_mv (Cg_fx (l0 := 0) (l1 := 0) hQ563 (Fx_f (w := 0 + 1) Fx_rf hF562 (by decide)) (by omega)) (by omega) (Cd_ap sf552 (by omega)))
  have sf591 : Cd (lg2_560 = 0 ∧ lb2_300 < 19999) (ST A558 (st2_379) (st2_413) (13) (T0 9 (T0 17 (n).toNat).toNat)) := Cd_mk (fun hC => ST_mv (Cg_fx (l0 := 0) (l1 := 0) hQ563 (Fx_f (w := 0 + 1) Fx_rf hF562 (by decide)) (by omega)) (by omega) (Cd_ap sf553 (by omega)))
  have sf592 : Cd (lg2_560 = 0 ∧ lb2_300 < 19999) (ST A558 (st2_413) (st2_448) (7) (T0 9 (T0 17 (n).toNat).toNat + 1)) := Cd_mk (fun hC => ST_mv (Cg_fx (l0 := 0) (l1 := 0) hQ563 (Fx_f (w := 0 + 1) Fx_rf hF562 (by decide)) (by omega)) (by omega) (Cd_ap sf554 (by omega)))
  have sf593 : Cd (lg2_560 = 0 ∧ lb2_300 < 19999) (ST A558 (st2_448) (st2_484) (8) (-1)) := Cd_mk (fun hC => ST_mv (Cg_fx (l0 := 0) (l1 := 0) hQ563 (Fx_f (w := 0 + 1) Fx_rf hF562 (by decide)) (by omega)) (by omega) (Cd_ap sf555 (by omega)))
  have sf594 : Cd (lg2_560 = 0 ∧ lb2_300 < 19999) (ST A558 (st2_484) (st2_521) (13) (T0 9 (T0 17 (n).toNat).toNat + 1)) := Cd_mk (fun hC => ST_mv (Cg_fx (l0 := 0) (l1 := 0) hQ563 (Fx_f (w := 0 + 1) Fx_rf hF562 (by decide)) (by omega)) (by omega) (Cd_ap p533 (by omega)))
  have hBo595 : Cd (lg2_560 = 0 ∧ lb2_300 < 19999) (Fx [50] (lb + 1) A A558) := Cd_mk (fun hC => Fx_f (Cd_ap hBo556 (by omega)) hF562 (by decide))
  refine jx_ld (pc' := 158) (l' := L45) (st' := [.ref 66]) rfl (jl_aloadn gL45_0) ?_
  refine jx_ld (pc' := 160) (l' := L45) (st' := [.int (i32 (r27)), .ref 66]) rfl (jl_iload gL45_4) ?_
  refine jx_vr (pc' := 163) (as := [.int (i32 (r27))]) (st := []) rfl rfl rfl rfl ⟨rfl, rfl, Nat.le_of_ble_eq_true rfl⟩ rfl rfl (c_set (dd := d) (hd := by omega) (hW := hW561) (l := r27) (st := st2_559) (e_st := show G557 70 = st2_559 from (e564))  (h_l := ⟨(Int.le_trans (by decide : (-2147483648 : Int) ≤ -2147483648) b31.1), (Int.le_trans b31.2 (by decide : (2147483647 : Int) ≤ 2147483647))⟩)  (p_0 := by omega) (p_1 := by omega)) (fun o V' hq => ?_)
  obtain ⟨G596, A597, ls2_598, rfl, rfl, hW599, hF600, e601, p602, q603⟩ := hq
  have hF604 := Fr_tr hF573 hF600 (Fr_sub (by decide)) (Fr_sub (by decide))
  have hC605 := Fx_f hC574 hF600 (by decide)
  have hAl606 := Fx_f hAl575 hF600 (by decide)
  have hBp607 := Fx_f hBp576 hF600 (by decide)
  have bls2_598 : (-2147483648 : Int) ≤ ls2_598 ∧ ls2_598 ≤ 2147483647 := e601 ▸ hW599.2 50 _
  refine .inl ⟨rfl, ?_⟩
  have a608 := q603
  have sf609 := FA_fr ((congrFun a608 51).trans (uA_ne (by decide))) sf577
  have sf610 := SA_fr ((congrFun a608 13).trans (uA_ne (by decide))) sf578
  have sf611 : Cd (lg2_560 = 0 ∧ lb2_300 < 19999) (gE T0 A597 F Sn nw (22) (T0 19 (n).toNat) (st) (st2_49) (lb2_28) (lb2_51)) := Cd_mk (fun hC => gE_mv (Cg_set (K := st2_49) a608 (by omega) (by have hr := Cd_ap p36 (by omega); omega)) (Int.le_refl _) (Cd_ap sf579 (by omega)))
  have sf612 : Cd (lg2_560 = 0 ∧ lb2_300 < 19999) (ST A597 (st2_49) (st2_77) (13) (T0 9 (T0 17 (n).toNat).toNat)) := Cd_mk (fun hC => ST_mv (Cg_set (K := st2_77) (l0 := r27) (l1 := r27) a608 (by omega) (by omega)) (Int.le_refl _) (Cd_ap sf580 (by omega)))
  have sf613 : Cd (lg2_560 = 0 ∧ lb2_300 < 19999) (gE T0 A597 F Sn nw (22) (T0 20 (n).toNat) (st2_77) (st2_102) (lb2_51) (lb2_104)) := Cd_mk (fun hC => gE_mv (Cg_set (K := st2_102) a608 (by omega) (by have hr := Cd_ap p36 (by omega); omega)) (Int.le_refl _) (Cd_ap sf581 (by omega)))
  have sf614 : Cd (lg2_560 = 0 ∧ lb2_300 < 19999) (ST A597 (st2_102) (st2_132) (13) (T0 9 (T0 17 (n).toNat).toNat + 1)) := Cd_mk (fun hC => ST_mv (Cg_set (K := st2_132) (l0 := r27) (l1 := r27) a608 (by omega) (by omega)) (Int.le_refl _) (Cd_ap sf582 (by omega)))
  have sf615 : Cd (lg2_560 = 0 ∧ lb2_300 < 19999) (LZ A597 (r6) (ls2_158) (lb) (lb2_7)) := Cd_mk (fun hC => LZ_mv (Cg_set (K := ls2_158) a608 (by omega) (by have hr := Cd_ap p36 (by omega); omega)) (Int.le_refl _) (Cd_ap sf583 (by omega)))
  have sf616 : Cd (lg2_560 = 0 ∧ lb2_300 < 19999) (ST A597 (st2_132) (st2_179) (7) (T0 9 (T0 17 (n).toNat).toNat + 1)) := Cd_mk (fun hC => ST_mv (Cg_set (K := st2_179) (l0 := r27) (l1 := r27) a608 (by omega) (by omega)) (Int.le_refl _) (Cd_ap sf584 (by omega)))
  have sf617 : Cd (lg2_560 = 0 ∧ lb2_300 < 19999) (ST A597 (st2_179) (st2_207) (4) (0)) := Cd_mk (fun hC => ST_mv (Cg_set (K := st2_207) (l0 := r27) (l1 := r27) a608 (by omega) (by omega)) (Int.le_refl _) (Cd_ap sf585 (by omega)))
  have sf618 : Cd (lg2_560 = 0 ∧ lb2_300 < 19999) (ST A597 (st2_207) (st2_236) (15) (6)) := Cd_mk (fun hC => ST_mv (Cg_set (K := st2_236) (l0 := r27) (l1 := r27) a608 (by omega) (by omega)) (Int.le_refl _) (Cd_ap sf586 (by omega)))
  have sf619 : Cd (lg2_560 = 0 ∧ lb2_300 < 19999) (WY A597 (st2_236) (st2_266) (10) (r27) (0)) := Cd_mk (fun hC => WY_mv (Cg_set (K := st2_266) (l0 := r27) (l1 := r27) a608 (by omega) (by omega)) (Int.le_refl _) (Cd_ap sf587 (by omega)))
  have sf620 : Cd (lg2_560 = 0 ∧ lb2_300 < 19999) (gP T0 A597 Q (k) (F) (Sn) (nw) (T0 21 (n).toNat) (st2_266) (st2_298) (lb2_104) (lb2_300)) := Cd_mk (fun hC => gP_mv (Cg_set (K := st2_298) a608 (by omega) (by have hr := Cd_ap p36 (by omega); omega)) (Int.le_refl _) (Cd_ap sf588 (by omega)))
  have sf621 : Cd (lg2_560 = 0 ∧ lb2_300 < 19999) (ST A597 (st2_298) (st2_346) (7) (T0 9 (T0 17 (n).toNat).toNat)) := Cd_mk (fun hC => ST_mv (Cg_set (K := st2_346) (l0 := r27) (l1 := r27) a608 (by omega) (by omega)) (Int.le_refl _) (Cd_ap sf589 (by omega)))
  have sf622 : Cd (lg2_560 = 0 ∧ lb2_300 < 19999) (ST A597 (st2_346) (st2_379) (8) (1)) := Cd_mk (fun hC => ST_mv (Cg_set (K := st2_379) (l0 := r27) (l1 := r27) a608 (by omega) (by omega)) (Int.le_refl _) (Cd_ap sf590 (by omega)))
  have sf623 : Cd (lg2_560 = 0 ∧ lb2_300 < 19999) (ST A597 (st2_379) (st2_413) (13) (T0 9 (T0 17 (n).toNat).toNat)) := Cd_mk (fun hC => ST_mv (Cg_set (K := st2_413) (l0 := r27) (l1 := r27) a608 (by omega) (by omega)) (Int.le_refl _) (Cd_ap sf591 (by omega)))
  have sf624 : Cd (lg2_560 = 0 ∧ lb2_300 < 19999) (ST A597 (st2_413) (st2_448) (7) (T0 9 (T0 17 (n).toNat).toNat + 1)) := Cd_mk (fun hC => ST_mv (Cg_set (K := st2_448) (l0 := r27) (l1 := r27) a608 (by omega) (by omega)) (Int.le_refl _) (Cd_ap sf592 (by omega)))
  have sf625 : Cd (lg2_560 = 0 ∧ lb2_300 < 19999) (ST A597 (st2_448) (st2_484) (8) (-1)) := Cd_mk (fun hC => ST_mv (Cg_set (K := st2_484) (l0 := r27) (l1 := r27) a608 (by omega) (by omega)) (Int.le_refl _) (Cd_ap sf593 (by omega)))
  have sf626 : Cd (lg2_560 = 0 ∧ lb2_300 < 19999) (ST A597 (st2_484) (st2_521) (13) (T0 9 (T0 17 (n).toNat).toNat + 1)) := Cd_mk (fun hC => ST_mv (Cg_set (K := st2_521) (l0 := r27) (l1 := r27) a608 (by omega) (by omega)) (Int.le_refl _) (Cd_ap sf594 (by omega)))
  have sf627 : Cd (lg2_560 = 0 ∧ lb2_300 < 19999) (WY A597 (st2_521) (st2_559) (0) (r6) (0)) := Cd_mk (fun hC => WY_mv (Cg_set (K := st2_559) (l0 := r27) (l1 := r27) a608 (by omega) (by omega)) (Int.le_refl _) (Cd_ap p571 (by omega)))
  have hBo628 : Cd (lg2_560 = 0 ∧ lb2_300 < 19999) (Fx [50] (lb + 1) A A597) := Cd_mk (fun hC => Fx_u a608 (Cd_ap hBo595 (by omega)) (by omega) (by have hr := Cd_ap p36 (by omega); omega))
  refine jx_rt (v := none) rfl rfl rfl rfl rfl rfl ?_
  exact ⟨_, _, st2_559, lg2_560, lb2_300, nw2_301, al2_302, fw2_303, rfl, rfl, hW599, hF604, hC605, hAl606, hBp607, ((hF600.1 70 rfl).trans (e564)), ((hF600.1 79 rfl).trans (e565)), ((hF600.1 77 rfl).trans ((hF562.1 77 rfl).trans ((hF524.1 77 rfl).trans ((hF487.1 77 rfl).trans ((hF451.1 77 rfl).trans ((hF416.1 77 rfl).trans ((hF382.1 77 rfl).trans ((hF349.1 77 rfl).trans (e311))))))))), ((hF600.1 81 rfl).trans ((hF562.1 81 rfl).trans ((hF524.1 81 rfl).trans ((hF487.1 81 rfl).trans ((hF451.1 81 rfl).trans ((hF416.1 81 rfl).trans ((hF382.1 81 rfl).trans ((hF349.1 81 rfl).trans (e312))))))))), ((hF600.1 89 rfl).trans ((hF562.1 89 rfl).trans ((hF524.1 89 rfl).trans ((hF487.1 89 rfl).trans ((hF451.1 89 rfl).trans ((hF416.1 89 rfl).trans ((hF382.1 89 rfl).trans ((hF349.1 89 rfl).trans (e313))))))))), (congrFun ((hF600.2 51 rfl).trans ((hF562.2 51 rfl).trans ((hF524.2 51 rfl).trans ((hF487.2 51 rfl).trans ((hF451.2 51 rfl).trans ((hF416.2 51 rfl).trans ((hF382.2 51 rfl).trans (hF349.2 51 rfl)))))))) _).trans (e314), by omega, by omega, by omega, by omega, by omega, (Cd_mk (fun hC => by have := Cd_ap p63 (by omega); have := Cd_ap p116 (by omega); have := Cd_ap p320 (by omega); omega)), by omega, (Cd_mk (fun hC => Cd_ap hBo628 (by omega))), by omega, by omega, by omega, sf609, (SA_su Vu_l sf610), (Cd_mk (fun hC => ⟨_, _, _, _, _, _, _, _, lb2_28, lb2_51, lb2_104, by omega, by omega, by omega, by omega, (Cd_ap sf611 (by omega)), (Cd_ap sf612 (by omega)), (Cd_ap sf613 (by omega)), (Cd_ap sf614 (by omega)), (SQ_c (Cd_ap sf616 (by omega)) (SQ_c (Cd_ap sf617 (by omega)) (SQ_c (Cd_ap sf618 (by omega)) SQ_n))), JP_ls (Cd_ap sf619 (by omega)) (LZ_su (LZ_mk (l0 := lb2_7) (l1 := lb2_28) (by omega) (by have hr := Cd_ap p36 (by omega); omega) (by have hr := Cd_ap p36 (by omega); omega) ((show A597 50 (r27).toNat = ls2_598 from (e601)).trans (by omega))) (by omega) (by omega)), (Cd_ap sf620 (by omega)), (SQ_c (Cd_ap sf621 (by omega)) (SQ_c (Cd_ap sf622 (by omega)) (SQ_c (Cd_ap sf623 (by omega)) (SQ_c (Cd_ap sf624 (by omega)) (SQ_c (Cd_ap sf625 (by omega)) (SQ_c (Cd_ap sf626 (by omega)) SQ_n)))))), JP_ls (Cd_ap sf627 (by omega)) (LZ_su (Cd_ap sf615 (by omega)) (by omega) (by omega))⟩)), trivial⟩
