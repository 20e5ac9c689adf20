set_option maxRecDepth 20000 in
set_option maxHeartbeats 4000000 in
theorem c_gen_s_at_261 {X : jX} {k : Nat} (hN : GN X k) {d : Nat} {T0 : Nat → Nat → Int} {Q F Sn : Int → Int} {Vs : Nat → Prop} {sb pb : Int} {c0 c1 : jC} {G : Nat → Int} {A : Nat → Nat → Int} {T : jH} {p : Int} {lo hi s0 s1 fr z D bd : Int} {st lg lb nw al fw : Int} (hd : 2 * (k + 1) + 62 ≤ d + 1) (hW : Wk G A) (e_st : G 70 = st) (e_lg : G 79 = lg) (e_lb : G 77 = lb) (e_nw : G 81 = nw) (e_al : G 89 = al) (e_fw : A 51 (nw).toNat = fw) (h_p : (-2147483648 : Int) ≤ p ∧ p ≤ 2147483647) (p_0 : TA T0 A) (p_1 : FA F (nw) A) (p_2 : SA T0 Vs Sn A) (p_3 : VW T0 Vs (nw)) (p_4 : 0 ≤ nw) (p_5 : nw + ((k + 1 : Nat) : Int) ≤ 38) (p_6 : 0 ≤ al) (p_7 : al + ((k + 1 : Nat) : Int) ≤ 38) (p_8 : 0 ≤ st) (p_9 : st ≤ 7000) (p_10 : 0 ≤ lb) (p_11 : lb + bd + 7000 - st ≤ 1900000000) (p_12 : hi ≤ 6999) (p_13 : sb ≤ 202) (p_14 : 0 ≤ lo) (p_15 : 0 ≤ s0) (p_16 : s1 ≤ sb) (p_17 : wP T0 sb pb (k + 1) (Vs) (p) (lo) (hi) (s0) (s1)) (p_18 : VB (Vs) (s0)) (p_19 : lP T0 (k + 1) (p) (fr) (nw) (z) (D)) (p_20 : WB (lo) (hi) (bd)) (p_21 : 1 ≤ fr) (p_22 : z ≤ 4000) (p_23 : 0 ≤ D) (p_24 : D ≤ 4000) (p_25 : -4000 ≤ fw - D) (p_26 : fw ≤ 0) (p_27 : pb ≤ 24) (p_28 : PV T0 pb) (p_29 : PA Q pb A) : ∀ (m : Nat) (L : jL) (Gx : Nat → Int) (Ax : Nat → Nat → Int) (c st1 lg1 lb1 fw1 gm gt sa bs : Int), (hi - gm).toNat = m → jGet L 0 = some (.ref 66) → jGet L 1 = some (.int (i32 (p))) → jGet L 2 = some (.int (i32 c)) → Wk Gx Ax → Fr [70, 77, 79, 81, 89] [13, 44, 45, 46, 47, 50, 51, 56, 57, 58] G A Gx Ax → Fx [44, 45, 46, 47] (st) A Ax → Fx [58] (8 * al) A Ax → Fx [56, 57] (8 * nw) A Ax → Cd (lg1 = 0 ∧ lb1 < 19999) (Fx [50] (lb + 1) A Ax) → Gx 70 = st1 → Gx 79 = lg1 → Gx 77 = lb1 → Ax 51 (nw).toNat = fw1 → Gx 81 = nw → Gx 89 = al → ((-2147483648 : Int) ≤ c ∧ c ≤ 2147483647) → (st ≤ st1) → (st1 ≤ 7000) → (lg ≤ lg1) → (lg1 ≤ 1) → (lb ≤ lb1) → (Cd (lg1 = 0) (lb1 - lb ≤ st1 - st)) → (lb1 - lb ≤ st1 - st + bs) → (WB (p + 1) (gm) (bs)) → (fw1 = fw) → (FA F (nw) Ax) → (SA T0 ((Vd Vs s0 (s0 + T0 24 (p).toNat))) Sn Ax) → (T0 15 (p).toNat = 26) → (p + 1 ≤ gm) → (gm ≤ hi) → ((s0 + T0 24 (p).toNat) ≤ gt) → (gt ≤ s1) → (sa ≤ st1) → (LQ T0 (wP T0 sb pb k ((Vd Vs s0 (s0 + T0 24 (p).toNat)))) (fun _ => True) (p) (c) (p + 1) (hi) ((s0 + T0 24 (p).toNat)) (s1) (gm) (gt)) → (Cd (lg1 = 0 ∧ lb1 < 19999) (gN T0 Ax F (nw) (T0 23 (p).toNat) ((T0 24 (p).toNat).toNat) (st) (sa))) → (Cd (lg1 = 0 ∧ lb1 < 19999) (hSq T0 Ax Q k F Sn (nw) (p) (c) (sa) (st1) (lb) (lb1))) → wj X d jm353 (261, L, [], rV c0 c1 Gx Ax T) (fun o V_q => ∃ (G_q : Nat → Int) (A_q : Nat → Nat → Int) (st2 : Int) (lg2 : Int) (lb2 : Int) (nw2 : Int) (al2 : Int) (fw2 : Int), V_q = rV c0 c1 G_q A_q T ∧ o = .inl none ∧ Wk G_q A_q ∧ Fr [70, 77, 79, 81, 89] [13, 44, 45, 46, 47, 50, 51, 56, 57, 58] G A G_q A_q ∧ Fx [44, 45, 46, 47] (st) A A_q ∧ Fx [58] (8 * al) A A_q ∧ Fx [56, 57] (8 * nw) A A_q ∧ G_q 70 = st2 ∧ G_q 79 = lg2 ∧ G_q 77 = lb2 ∧ G_q 81 = nw2 ∧ G_q 89 = al2 ∧ A_q 51 (nw).toNat = fw2 ∧ (st ≤ st2) ∧ (st2 ≤ 7000) ∧ (lg ≤ lg2) ∧ (lg2 ≤ 1) ∧ (lb ≤ lb2) ∧ (Cd (lg2 = 0) (lb2 - lb ≤ st2 - st)) ∧ (lb2 - lb ≤ st2 - st + bd) ∧ (Cd (lg2 = 0 ∧ lb2 < 19999) (Fx [50] (lb + 1) A A_q)) ∧ (nw2 = nw) ∧ (al2 = al) ∧ (fw2 = fw) ∧ (FA F (nw) A_q) ∧ (SA T0 Vs Sn A_q) ∧ (Cd (lg2 = 0 ∧ lb2 < 19999) (gP T0 A_q Q (k + 1) (F) (Sn) (nw) (p) (st) (st2) (lb) (lb2))) ∧ True) := by
  have hF0 : Fr [70, 77, 79, 81, 89] [13, 44, 45, 46, 47, 50, 51, 56, 57, 58] G A G A := Fr_rf
  have hC0 : Fx [44, 45, 46, 47] (st) A A := Fx_rf
  have hAl0 : Fx [58] (8 * al) A A := Fx_rf
  have hBp0 : Fx [56, 57] (8 * nw) A A := Fx_rf
  have b_st : (-2147483648 : Int) ≤ st ∧ st ≤ 2147483647 := e_st ▸ hW.1 70
  have b_lg : (0 : Int) ≤ lg ∧ lg ≤ 1 := e_lg ▸ hW.1 79
  have b_lb : (-2147483648 : Int) ≤ lb ∧ lb ≤ 2147483647 := e_lb ▸ hW.1 77
  have b_nw : (-2147483648 : Int) ≤ nw ∧ nw ≤ 2147483647 := e_nw ▸ hW.1 81
  have b_al : (-2147483648 : Int) ≤ al ∧ al ≤ 2147483647 := e_al ▸ hW.1 89
  have b_fw : (-2147483648 : Int) ≤ fw ∧ fw ≤ 2147483647 := e_fw ▸ hW.2 51 _
  have hWT := TA_w hW p_0
  have hBo0 : Cd (lg = 0 ∧ lb < 19999) (Fx [50] (lb + 1) A A) := Cd_mk (fun _ => Fx_rf)
  have hfw := FA_at p_1 p_4 e_fw
  have hwp := p_17
  unfold wP at hwp
  obtain ⟨w1, w2, w3, w4, w5, w6, w7, w8⟩ := hwp
  have hly := p_19
  unfold lP at hly
  obtain ⟨y1, y2, y3⟩ := hly
  have hm24 : (((T0 24 (p).toNat).toNat : Nat) : Int) = T0 24 (p).toNat := by omega
  have hz0 := (zS_le (A := T0) (s := T0 23 (p).toNat) (m := (T0 24 (p).toNat).toNat) (fun j hj => by have := w7 (T0 23 (p).toNat + (j : Int)).toNat (by omega) (by omega); omega) (j := (T0 24 (p).toNat).toNat) (Nat.le_refl _)).1
  have hVW1 : VW T0 (Vd Vs s0 (s0 + T0 24 (p).toNat)) nw := (by have q := VW_d (m := (T0 24 (p).toNat).toNat) (f := fr) p_3 w3 p_4 (by rw [hm24]; exact w7) (by rw [← w4]; exact y1) (by omega) (by rw [← w4]; omega); rw [hm24] at q; exact q); have hSA1 : SA T0 (Vd Vs s0 (s0 + T0 24 (p).toNat)) Sn A := SA_d p_2 w7; have hVB1 : VB (Vd Vs s0 (s0 + T0 24 (p).toNat)) (s0 + T0 24 (p).toNat) := VB_d p_18 (by omega)
  intro m
  induction m using Nat.strongRecOn with
  | ind m ih261 =>
    intro L Gx Ax c st1 lg1 lb1 fw1 gm gt sa bs hm gL_0 gL_1 gL_2 hWx hFx hCx hAlx hBpx hBox ex_st1 ex_lg1 ex_lb1 ex_fw1 fx_81 fx_89 rx_c iv_0 iv_1 iv_2 iv_3 iv_4 iv_5 iv_6 iv_7 iv_8 iv_9 iv_10 iv_11 iv_12 iv_13 iv_14 iv_15 iv_16 iv_17 iv_18 iv_19
    have b_st1 : (-2147483648 : Int) ≤ st1 ∧ st1 ≤ 2147483647 := ex_st1 ▸ hWx.1 70
    have b_lg1 : (0 : Int) ≤ lg1 ∧ lg1 ≤ 1 := ex_lg1 ▸ hWx.1 79
    have b_lb1 : (-2147483648 : Int) ≤ lb1 ∧ lb1 ≤ 2147483647 := ex_lb1 ▸ hWx.1 77
    have hbe0 := WB_le p_20 iv_7 (by omega) (by omega) (by omega)
    refine jx_ld (pc_q := 262) (l_q := L) (st_q := [.int (i32 (c))]) rfl (jl_iloadn gL_2) ?_
    refine jx_if_le (pc_q := 265) (tg := 280) rfl rfl rfl (Int.le_trans (by decide : (-2147483648 : Int) ≤ -2147483648) rx_c.1) (Int.le_trans rx_c.2 (by decide : (2147483647 : Int) ≤ 2147483647)) (fun h1 => ?_) (fun h1 => ?_)
    · have _q := h1
      refine jx_go (tg := 373) rfl rfl ?_
      refine jx_rt (v := none) rfl rfl rfl rfl rfl rfl ?_
      exact ⟨_, _, st1, lg1, lb1, nw, al, fw1, rfl, rfl, hWx, hFx, hCx, hAlx, hBpx, (ex_st1), (ex_lg1), (ex_lb1), (fx_81), (fx_89), (ex_fw1), by omega, by omega, by omega, by omega, by omega, (Cd_mk (fun hC => by have := Cd_ap iv_5 (by omega); omega)), by omega, (Cd_mk (fun hC => Cd_ap hBox (by omega))), by omega, by omega, by omega, iv_9, (SA_su Vd_l iv_10), (Cd_mk (fun hC => (gP_mk (by omega) (Cd_ap iv_18 (by omega)) (.inr (.inr (.inr (.inr (.inr (.inr (.inl ⟨iv_11, gQ_end (Cd_ap iv_19 (by omega)) (by omega)⟩)))))))))), trivial⟩
    · have _q := h1
      obtain ⟨l1, m1, t1, q1, q2, q3, q4, q5, q6, hwP, _, _, hnx⟩ := LQ_hd iv_17 (by omega); have hwi := wP_in hwP; have hly := LQ_lay (M := fun _ => True) iv_17 (by omega) (y3.2.2.2.1 iv_11); obtain ⟨b1, hb1⟩ : ∃ b, WB gm m1 b := WB_ex _ _; obtain ⟨b2, hb2⟩ : ∃ b, WB (p + 1) m1 b := WB_ex _ _; have hbn := WB_ad iv_7 hb1 hb2 (by omega) (by omega); have hbe := WB_le p_20 hb2 (by omega) (by omega) (by omega)
      refine jx_ld (pc_q := 266) (l_q := L) (st_q := [.ref 66]) rfl (jl_aloadn gL_0) ?_
      refine jx_ld (pc_q := 267) (l_q := L) (st_q := [.int (i32 (c)), .ref 66]) rfl (jl_iloadn gL_2) ?_
      refine jx_vr (pc_q := 270) (as := [.int (i32 (c))]) (st := []) rfl rfl rfl rfl ⟨rfl, rfl, Nat.le_of_ble_eq_true rfl⟩ rfl rfl (hN (dd := d) (hd := by omega) (hW := hWx) (p := c) (lo := gm) (hi := m1) (s0 := gt) (s1 := t1) (fr := fr + zS T0 (T0 23 (p).toNat) (T0 24 (p).toNat).toNat) (z := z) (D := D) (bd := b1) (st := st1) (e_st := show Gx 70 = st1 from (ex_st1)) (lg := lg1) (e_lg := show Gx 79 = lg1 from (ex_lg1)) (lb := lb1) (e_lb := show Gx 77 = lb1 from (ex_lb1)) (nw := nw) (e_nw := show Gx 81 = nw from (fx_81)) (al := al) (e_al := show Gx 89 = al from (fx_89)) (fw := fw1) (e_fw := show Ax 51 (nw).toNat = fw1 from (ex_fw1))  (h_p := ⟨(Int.le_trans (by decide : (-2147483648 : Int) ≤ -2147483648) rx_c.1), (Int.le_trans rx_c.2 (by decide : (2147483647 : Int) ≤ 2147483647))⟩)  (p_0 := (TA_fr hFx (by decide) p_0)) (p_1 := iv_9) (p_2 := iv_10) (p_3 := hVW1) (p_4 := by omega) (p_5 := by omega) (p_6 := by omega) (p_7 := by omega) (p_8 := by omega) (p_9 := by omega) (p_10 := by omega) (p_11 := by omega) (p_12 := by omega) (p_13 := by omega) (p_14 := by omega) (p_15 := by omega) (p_16 := by omega) (p_17 := hwP) (p_18 := (VB_mo hVB1 (by omega))) (p_19 := hly) (p_20 := hb1) (p_21 := by omega) (p_22 := by omega) (p_23 := by omega) (p_24 := by omega) (p_25 := by omega) (p_26 := by omega) (p_27 := by omega) (p_28 := p_28) (p_29 := (PA_fr (hFx.2 52 rfl) p_29))) (fun o V_q hq => ?_)
      obtain ⟨G2, A3, st2_4, lg2_5, lb2_6, nw2_7, al2_8, fw2_9, rfl, rfl, hW10, hF11, hQ12, hQ13, hQ14, e15, e16, e17, e18, e19, e20, p21, p22, p23, p24, p25, p26, p27, p28, p29, p30, p31, p32, p33, p34, -⟩ := hq
      have hF36 := Fr_tr hFx hF11 (Fr_sub (by decide)) (Fr_sub (by decide))
      have hC37 := Fx_tr hCx hQ12 (by omega)
      have hAl38 := Fx_tr hAlx hQ13 (by omega)
      have hBp39 := Fx_tr hBpx hQ14 (by omega)
      have bst2_4 : (-2147483648 : Int) ≤ st2_4 ∧ st2_4 ≤ 2147483647 := e15 ▸ hW10.1 70
      have blg2_5 : (0 : Int) ≤ lg2_5 ∧ lg2_5 ≤ 1 := e16 ▸ hW10.1 79
      have blb2_6 : (-2147483648 : Int) ≤ lb2_6 ∧ lb2_6 ≤ 2147483647 := e17 ▸ hW10.1 77
      have bnw2_7 : (-2147483648 : Int) ≤ nw2_7 ∧ nw2_7 ≤ 2147483647 := e18 ▸ hW10.1 81
      have bal2_8 : (-2147483648 : Int) ≤ al2_8 ∧ al2_8 ≤ 2147483647 := e19 ▸ hW10.1 89
      have bfw2_9 : (-2147483648 : Int) ≤ fw2_9 ∧ fw2_9 ≤ 2147483647 := e20 ▸ hW10.2 51 _
      refine .inl ⟨rfl, ?_⟩
      have sf40 : Cd (lg2_5 = 0 ∧ lb2_6 < 19999) (gN T0 A3 F (nw) (T0 23 (p).toNat) ((T0 24 (p).toNat).toNat) (st) (sa)) := Cd_mk (fun hC => gN_mv (Cg_fx (l0 := 0) (l1 := 0) hQ12 (Cd_ap p28 (by omega)) (by omega)) (by omega) (Cd_ap iv_18 (by omega)))
      have sf41 : Cd (lg2_5 = 0 ∧ lb2_6 < 19999) (hSq T0 A3 Q k F Sn (nw) (p) (c) (sa) (st1) (lb) (lb1)) := Cd_mk (fun hC => hSq_mv (Cg_fx (l0 := lb) (l1 := lb1) hQ12 (Cd_ap p28 (by omega)) (by omega)) (by omega) (Cd_ap iv_19 (by omega)))
      have hBo42 : Cd (lg2_5 = 0 ∧ lb2_6 < 19999) (Fx [50] (lb + 1) A A3) := Cd_mk (fun hC => Fx_tr (Cd_ap hBox (by omega)) (Cd_ap p28 (by omega)) (by omega))
      refine jx_ld (pc_q := 271) (l_q := L) (st_q := [.ref 66]) rfl (jl_aloadn gL_0) ?_
      refine jr_get (pc_q := 274) (i := 39) (v := .ref 89) rfl rfl (by decide) rfl rfl ?_
      refine jx_ld (pc_q := 275) (l_q := L) (st_q := [.int (i32 (c)), .ref 89]) rfl (jl_iloadn gL_2) ?_
      have b43 : (-2147483648 : Int) ≤ T0 22 (c).toNat ∧ T0 22 (c).toNat ≤ 2147483647 := hWT.2 22 _
      refine jr_ldv (pc_q := 276) (i := 22) (m := 7000) (z := c) (y := T0 22 (c).toNat) rfl (by decide) rfl (by decide) (by omega) (by omega) rfl (show A3 22 (c).toNat = T0 22 (c).toNat from (congrFun ((hF11.2 22 rfl).trans ((hFx.2 22 rfl).trans (p_0 22 rfl))) _)) ?_
      refine jx_ld (pc_q := 277) (l_q := jSto1 L 2 (.int (i32 (T0 22 (c).toNat)))) (st_q := []) rfl rfl ?_
      obtain ⟨L44, eL44⟩ : ∃ q, q = jSto1 L 2 (.int (i32 (T0 22 (c).toNat))) := ⟨_, rfl⟩
      rw [← eL44]
      have gL44_0 : jGet L44 0 = some (.ref 66) := eL44 ▸ jg_ne (by decide) gL_0 rfl
      have gL44_1 : jGet L44 1 = some (.int (i32 (p))) := eL44 ▸ jg_ne (by decide) gL_1 rfl
      have gL44_2 : jGet L44 2 = some (.int (i32 (T0 22 (c).toNat))) := eL44 ▸ jg_eq
      refine jx_go (tg := 261) rfl rfl ?_
      exact ih261 _ (by omega) L44 G2 A3 (T0 22 (c).toNat) (st2_4) (lg2_5) (lb2_6) (fw2_9) (m1) (t1) (sa) (b2) rfl gL44_0 gL44_1 gL44_2 hW10 hF36 hC37 hAl38 hBp39 (Cd_mk (fun hC => Cd_ap hBo42 (by omega))) ((e15)) ((e16)) ((e17)) ((e20)) (Eq.trans (show G2 81 = nw2_7 from (e18)) (by omega)) (Eq.trans (show G2 89 = al2_8 from (e19)) (by omega)) (by omega) (by omega) (by omega) (by omega) (by omega) (by omega) ((Cd_mk (fun hC => by have := Cd_ap iv_5 (by omega); have := Cd_ap p26 (by omega); omega))) (by omega) (hb2) (by omega) (p32) (p33) (by omega) (by omega) (by omega) (by omega) (by omega) (by omega) ((hnx (fun _ => True) trivial)) ((Cd_mk (fun hC => (Cd_ap sf40 (by omega))))) ((Cd_mk (fun hC => (gQ_nx (Cd_ap sf41 (by omega)) (by omega) rfl (by omega) (Cd_ap p34 (by omega))))))
set_option maxRecDepth 20000 in
set_option maxHeartbeats 4000000 in
theorem c_gen_s_at_87 {X : jX} {k : Nat} (hN : GN X k) {d : Nat} {T0 : Nat → Nat → Int} {Q F Sn : Int → Int} {Vs : Nat → Prop} {sb pb : Int} {c0 c1 : jC} {G : Nat → Int} {A : Nat → Nat → Int} {T : jH} {p : Int} {lo hi s0 s1 fr z D bd : Int} {st lg lb nw al fw : Int} (hd : 2 * (k + 1) + 62 ≤ d + 1) (hW : Wk G A) (e_st : G 70 = st) (e_lg : G 79 = lg) (e_lb : G 77 = lb) (e_nw : G 81 = nw) (e_al : G 89 = al) (e_fw : A 51 (nw).toNat = fw) (h_p : (-2147483648 : Int) ≤ p ∧ p ≤ 2147483647) (p_0 : TA T0 A) (p_1 : FA F (nw) A) (p_2 : SA T0 Vs Sn A) (p_3 : VW T0 Vs (nw)) (p_4 : 0 ≤ nw) (p_5 : nw + ((k + 1 : Nat) : Int) ≤ 38) (p_6 : 0 ≤ al) (p_7 : al + ((k + 1 : Nat) : Int) ≤ 38) (p_8 : 0 ≤ st) (p_9 : st ≤ 7000) (p_10 : 0 ≤ lb) (p_11 : lb + bd + 7000 - st ≤ 1900000000) (p_12 : hi ≤ 6999) (p_13 : sb ≤ 202) (p_14 : 0 ≤ lo) (p_15 : 0 ≤ s0) (p_16 : s1 ≤ sb) (p_17 : wP T0 sb pb (k + 1) (Vs) (p) (lo) (hi) (s0) (s1)) (p_18 : VB (Vs) (s0)) (p_19 : lP T0 (k + 1) (p) (fr) (nw) (z) (D)) (p_20 : WB (lo) (hi) (bd)) (p_21 : 1 ≤ fr) (p_22 : z ≤ 4000) (p_23 : 0 ≤ D) (p_24 : D ≤ 4000) (p_25 : -4000 ≤ fw - D) (p_26 : fw ≤ 0) (p_27 : pb ≤ 24) (p_28 : PV T0 pb) (p_29 : PA Q pb A) : ∀ (L : jL) (Gx : Nat → Int) (Ax : Nat → Nat → Int) (st1 lg1 fw1 : Int), jGet L 0 = some (.ref 66) → jGet L 1 = some (.int (i32 (p))) → Wk Gx Ax → Fr [70, 77, 79, 81, 89] [13, 44, 45, 46, 47, 50, 51, 56, 57, 58] G A Gx Ax → Fx [44, 45, 46, 47] (st) A Ax → Fx [58] (8 * al) A Ax → Fx [56, 57] (8 * nw) A Ax → Cd (lg1 = 0 ∧ lb < 19999) (Fx [50] (lb + 1) A Ax) → Gx 70 = st1 → Gx 79 = lg1 → Ax 51 (nw).toNat = fw1 → Gx 81 = nw → Gx 89 = al → Gx 77 = lb → (st ≤ st1) → (st1 ≤ 7000) → (lg ≤ lg1) → (lg1 ≤ 1) → (fw1 = fw) → (FA F (nw) Ax) → (SA T0 ((Vd Vs s0 (s0 + T0 24 (p).toNat))) Sn Ax) → (Cd (lg1 = 0 ∧ lb < 19999) (gN T0 Ax F (nw) (T0 23 (p).toNat) ((T0 24 (p).toNat).toNat) (st) (st1))) → wj X d jm353 (87, L, [], rV c0 c1 Gx Ax T) (fun o V_q => ∃ (G_q : Nat → Int) (A_q : Nat → Nat → Int) (st2 : Int) (lg2 : Int) (lb2 : Int) (nw2 : Int) (al2 : Int) (fw2 : Int), V_q = rV c0 c1 G_q A_q T ∧ o = .inl none ∧ Wk G_q A_q ∧ Fr [70, 77, 79, 81, 89] [13, 44, 45, 46, 47, 50, 51, 56, 57, 58] G A G_q A_q ∧ Fx [44, 45, 46, 47] (st) A A_q ∧ Fx [58] (8 * al) A A_q ∧ Fx [56, 57] (8 * nw) A A_q ∧ G_q 70 = st2 ∧ G_q 79 = lg2 ∧ G_q 77 = lb2 ∧ G_q 81 = nw2 ∧ G_q 89 = al2 ∧ A_q 51 (nw).toNat = fw2 ∧ (st ≤ st2) ∧ (st2 ≤ 7000) ∧ (lg ≤ lg2) ∧ (lg2 ≤ 1) ∧ (lb ≤ lb2) ∧ (Cd (lg2 = 0) (lb2 - lb ≤ st2 - st)) ∧ (lb2 - lb ≤ st2 - st + bd) ∧ (Cd (lg2 = 0 ∧ lb2 < 19999) (Fx [50] (lb + 1) A A_q)) ∧ (nw2 = nw) ∧ (al2 = al) ∧ (fw2 = fw) ∧ (FA F (nw) A_q) ∧ (SA T0 Vs Sn A_q) ∧ (Cd (lg2 = 0 ∧ lb2 < 19999) (gP T0 A_q Q (k + 1) (F) (Sn) (nw) (p) (st) (st2) (lb) (lb2))) ∧ True) := by
  have hF0 : Fr [70, 77, 79, 81, 89] [13, 44, 45, 46, 47, 50, 51, 56, 57, 58] G A G A := Fr_rf
  have hC0 : Fx [44, 45, 46, 47] (st) A A := Fx_rf
  have hAl0 : Fx [58] (8 * al) A A := Fx_rf
  have hBp0 : Fx [56, 57] (8 * nw) A A := Fx_rf
  have b_st : (-2147483648 : Int) ≤ st ∧ st ≤ 2147483647 := e_st ▸ hW.1 70
  have b_lg : (0 : Int) ≤ lg ∧ lg ≤ 1 := e_lg ▸ hW.1 79
  have b_lb : (-2147483648 : Int) ≤ lb ∧ lb ≤ 2147483647 := e_lb ▸ hW.1 77
  have b_nw : (-2147483648 : Int) ≤ nw ∧ nw ≤ 2147483647 := e_nw ▸ hW.1 81
  have b_al : (-2147483648 : Int) ≤ al ∧ al ≤ 2147483647 := e_al ▸ hW.1 89
  have b_fw : (-2147483648 : Int) ≤ fw ∧ fw ≤ 2147483647 := e_fw ▸ hW.2 51 _
  have hWT := TA_w hW p_0
  have hBo0 : Cd (lg = 0 ∧ lb < 19999) (Fx [50] (lb + 1) A A) := Cd_mk (fun _ => Fx_rf)
  have hfw := FA_at p_1 p_4 e_fw
  have hwp := p_17
  unfold wP at hwp
  obtain ⟨w1, w2, w3, w4, w5, w6, w7, w8⟩ := hwp
  have hly := p_19
  unfold lP at hly
  obtain ⟨y1, y2, y3⟩ := hly
  have hm24 : (((T0 24 (p).toNat).toNat : Nat) : Int) = T0 24 (p).toNat := by omega
  have hz0 := (zS_le (A := T0) (s := T0 23 (p).toNat) (m := (T0 24 (p).toNat).toNat) (fun j hj => by have := w7 (T0 23 (p).toNat + (j : Int)).toNat (by omega) (by omega); omega) (j := (T0 24 (p).toNat).toNat) (Nat.le_refl _)).1
  have hVW1 : VW T0 (Vd Vs s0 (s0 + T0 24 (p).toNat)) nw := (by have q := VW_d (m := (T0 24 (p).toNat).toNat) (f := fr) p_3 w3 p_4 (by rw [hm24]; exact w7) (by rw [← w4]; exact y1) (by omega) (by rw [← w4]; omega); rw [hm24] at q; exact q); have hSA1 : SA T0 (Vd Vs s0 (s0 + T0 24 (p).toNat)) Sn A := SA_d p_2 w7; have hVB1 : VB (Vd Vs s0 (s0 + T0 24 (p).toNat)) (s0 + T0 24 (p).toNat) := VB_d p_18 (by omega)
  intro L Gx Ax st1 lg1 fw1 gL_0 gL_1 hWx hFx hCx hAlx hBpx hBox ex_st1 ex_lg1 ex_fw1 fx_81 fx_89 fx_77 iv_0 iv_1 iv_2 iv_3 iv_4 iv_5 iv_6 iv_7
  have b_st1 : (-2147483648 : Int) ≤ st1 ∧ st1 ≤ 2147483647 := ex_st1 ▸ hWx.1 70
  have b_lg1 : (0 : Int) ≤ lg1 ∧ lg1 ≤ 1 := ex_lg1 ▸ hWx.1 79
  have hkk := wS_kd w8; have hbp := WB_p p_20 (by omega) (by omega) (by omega)
  refine jx_ld (pc_q := 88) (l_q := L) (st_q := [.ref 66]) rfl (jl_aloadn gL_0) ?_
  refine jr_get (pc_q := 91) (i := 32) (v := .ref 82) rfl rfl (by decide) rfl rfl ?_
  refine jx_ld (pc_q := 92) (l_q := L) (st_q := [.int (i32 (p)), .ref 82]) rfl (jl_iloadn gL_1) ?_
  have b45 : (0 : Int) ≤ T0 15 (p).toNat ∧ T0 15 (p).toNat ≤ 34 := hWT.2 15 _
  refine jr_ldv (pc_q := 93) (i := 15) (m := 7000) (z := p) (y := T0 15 (p).toNat) rfl (by decide) rfl (by decide) (by omega) (by omega) rfl (show Ax 15 (p).toNat = T0 15 (p).toNat from (congrFun ((hFx.2 15 rfl).trans (p_0 15 rfl)) _)) ?_
  rcases (by omega : T0 15 (p).toNat = 21 ∨ T0 15 (p).toNat = 22 ∨ T0 15 (p).toNat = 23 ∨ T0 15 (p).toNat = 24 ∨ T0 15 (p).toNat = 25 ∨ T0 15 (p).toNat = 26 ∨ T0 15 (p).toNat = 27 ∨ T0 15 (p).toNat = 28 ∨ T0 15 (p).toNat = 29 ∨ T0 15 (p).toNat = 30 ∨ T0 15 (p).toNat = 31 ∨ T0 15 (p).toNat = 32 ∨ (T0 15 (p).toNat < 21 ∨ 32 < T0 15 (p).toNat)) with h46 | h46 | h46 | h46 | h46 | h46 | h46 | h46 | h46 | h46 | h46 | h46 | h46
  · refine jx_swe (z := 21) (tg := 156) h46 rfl rfl rfl rfl ?_
    have hkd : T0 15 (p).toNat = 21 := (by omega)
    refine jx_ld (pc_q := 157) (l_q := L) (st_q := [.ref 66]) rfl (jl_aloadn gL_0) ?_
    refine jx_ar (pc_q := 159) (st_q := [.int (i32 (18)), .ref 66]) rfl rfl rfl rfl ?_
    refine jx_vr (pc_q := 162) (as := [.int (i32 (18))]) (st := []) rfl rfl rfl rfl ⟨rfl, rfl, Nat.le_of_ble_eq_true rfl⟩ rfl rfl (c_op (dd := d) (hd := by omega) (hW := hWx) (oo := 18) (st := st1) (e_st := show Gx 70 = st1 from (ex_st1)) (lg := lg1) (e_lg := show Gx 79 = lg1 from (ex_lg1))  (h_oo := ⟨(by decide), (by decide)⟩)  (p_0 := by omega) (p_1 := by omega)) (fun o V_q hq => ?_)
    obtain ⟨G47, A48, st2_49, lg2_50, rfl, rfl, hW51, hF52, hQ53, e54, e55, p56, p57, p58, p59, p60, p61, -⟩ := hq
    have hF63 := Fr_tr hFx hF52 (Fr_sub (by decide)) (Fr_sub (by decide))
    have hC64 := Fx_tr hCx hQ53 (by omega)
    have hAl65 := Fx_f hAlx hF52 (by decide)
    have hBp66 := Fx_f hBpx hF52 (by decide)
    have sf67 := FA_fr (hF52.2 51 rfl) iv_5
    have sf68 := SA_fr (hF52.2 13 rfl) iv_6
    have bst2_49 : (-2147483648 : Int) ≤ st2_49 ∧ st2_49 ≤ 2147483647 := e54 ▸ hW51.1 70
    have blg2_50 : (0 : Int) ≤ lg2_50 ∧ lg2_50 ≤ 1 := e55 ▸ hW51.1 79
    refine .inl ⟨rfl, ?_⟩
    have sf69 : Cd (lg2_50 = 0 ∧ lb < 19999) (gN T0 A48 F (nw) (T0 23 (p).toNat) ((T0 24 (p).toNat).toNat) (st) (st1)) := Cd_mk (fun hC => gN_mv (Cg_fx (l0 := 0) (l1 := 0) hQ53 (Fx_f (w := 0 + 1) Fx_rf hF52 (by decide)) (by omega)) (by omega) (Cd_ap iv_7 (by omega)))
    have hBo70 : Cd (lg2_50 = 0 ∧ lb < 19999) (Fx [50] (lb + 1) A A48) := Cd_mk (fun hC => Fx_f (Cd_ap hBox (by omega)) hF52 (by decide))
    refine jx_go (tg := 373) rfl rfl ?_
    refine jx_rt (v := none) rfl rfl rfl rfl rfl rfl ?_
    exact ⟨_, _, st2_49, lg2_50, lb, nw, al, fw1, rfl, rfl, hW51, hF63, hC64, hAl65, hBp66, (e54), (e55), ((hF52.1 77 rfl).trans (fx_77)), ((hF52.1 81 rfl).trans (fx_81)), ((hF52.1 89 rfl).trans (fx_89)), (congrFun (hF52.2 51 rfl) _).trans (ex_fw1), by omega, by omega, by omega, by omega, by omega, (Cd_mk (fun hC => by omega)), by omega, (Cd_mk (fun hC => Cd_ap hBo70 (by omega))), by omega, by omega, by omega, sf67, (SA_su Vd_l sf68), (Cd_mk (fun hC => (gP_mk (by omega) (Cd_ap sf69 (by omega)) (.inr (.inl ⟨hkd, (Cd_ap p61 (by omega))⟩))))), trivial⟩
  · refine jx_swe (z := 22) (tg := 165) h46 rfl rfl rfl rfl ?_
    have hkd : T0 15 (p).toNat = 22 := (by omega); obtain ⟨g1, g2, g3⟩ := wS_i22 w8 hkd
    refine jx_ld (pc_q := 166) (l_q := L) (st_q := [.ref 66]) rfl (jl_aloadn gL_0) ?_
    refine jx_ld (pc_q := 167) (l_q := L) (st_q := [.ref 66, .ref 66]) rfl (jl_aloadn gL_0) ?_
    refine jr_get (pc_q := 170) (i := 35) (v := .ref 85) rfl rfl (by decide) rfl rfl ?_
    refine jx_ld (pc_q := 171) (l_q := L) (st_q := [.int (i32 (p)), .ref 85, .ref 66]) rfl (jl_iloadn gL_1) ?_
    have b71 : (-2147483648 : Int) ≤ T0 18 (p).toNat ∧ T0 18 (p).toNat ≤ 2147483647 := hWT.2 18 _
    refine jr_ldv (pc_q := 172) (i := 18) (m := 7000) (z := p) (y := T0 18 (p).toNat) rfl (by decide) rfl (by decide) (by omega) (by omega) rfl (show Ax 18 (p).toNat = T0 18 (p).toNat from (congrFun ((hFx.2 18 rfl).trans (p_0 18 rfl)) _)) ?_
    refine jx_vr (pc_q := 175) (as := [.int (i32 (T0 18 (p).toNat))]) (st := []) rfl rfl rfl rfl ⟨rfl, rfl, Nat.le_of_ble_eq_true rfl⟩ rfl rfl (GE_all X 22 (dd := d) (hd := by omega) (hW := hWx) (e := T0 18 (p).toNat) (lo := p + 1) (hi := hi) (st := st1) (e_st := show Gx 70 = st1 from (ex_st1)) (lg := lg1) (e_lg := show Gx 79 = lg1 from (ex_lg1)) (lb := lb) (e_lb := show Gx 77 = lb from (fx_77)) (nw := nw) (e_nw := show Gx 81 = nw from (fx_81))  (h_e := ⟨(Int.le_trans (by decide : (-2147483648 : Int) ≤ -2147483648) b71.1), (Int.le_trans b71.2 (by decide : (2147483647 : Int) ≤ 2147483647))⟩)  (p_0 := (TA_fr hFx (by decide) p_0)) (p_1 := iv_5) (p_2 := iv_6) (p_3 := hVW1) (p_4 := by omega) (p_5 := by omega) (p_6 := by omega) (p_7 := by omega) (p_8 := by omega) (p_9 := by omega) (p_10 := by omega) (p_11 := by omega) (p_12 := by omega) (p_13 := (wE_mono (by omega) (by omega) (by omega) g3)) (p_14 := by omega)) (fun o V_q hq => ?_)
    obtain ⟨G72, A73, st2_74, lg2_75, lb2_76, rfl, rfl, hW77, hF78, hQ79, e80, e81, e82, p83, p84, p85, p86, p87, p88, p89, p90, p91, -⟩ := hq
    have hF93 := Fr_tr hFx hF78 (Fr_sub (by decide)) (Fr_sub (by decide))
    have hC94 := Fx_tr hCx hQ79 (by omega)
    have hAl95 := Fx_f hAlx hF78 (by decide)
    have hBp96 := Fx_f hBpx hF78 (by decide)
    have sf97 := FA_fr (hF78.2 51 rfl) iv_5
    have sf98 := SA_fr (hF78.2 13 rfl) iv_6
    have bst2_74 : (-2147483648 : Int) ≤ st2_74 ∧ st2_74 ≤ 2147483647 := e80 ▸ hW77.1 70
    have blg2_75 : (0 : Int) ≤ lg2_75 ∧ lg2_75 ≤ 1 := e81 ▸ hW77.1 79
    have blb2_76 : (-2147483648 : Int) ≤ lb2_76 ∧ lb2_76 ≤ 2147483647 := e82 ▸ hW77.1 77
    refine .inl ⟨rfl, ?_⟩
    have sf99 : Cd (lg2_75 = 0 ∧ lb2_76 < 19999) (gN T0 A73 F (nw) (T0 23 (p).toNat) ((T0 24 (p).toNat).toNat) (st) (st1)) := Cd_mk (fun hC => gN_mv (Cg_fx (l0 := 0) (l1 := 0) hQ79 (Cd_ap p90 (by omega)) (by omega)) (by omega) (Cd_ap iv_7 (by omega)))
    have hBo100 : Cd (lg2_75 = 0 ∧ lb2_76 < 19999) (Fx [50] (lb + 1) A A73) := Cd_mk (fun hC => Fx_tr (Cd_ap hBox (by omega)) (Cd_ap p90 (by omega)) (by omega))
    refine jx_ld (pc_q := 176) (l_q := L) (st_q := [.ref 66]) rfl (jl_aloadn gL_0) ?_
    refine jx_ld (pc_q := 177) (l_q := L) (st_q := [.ref 66, .ref 66]) rfl (jl_aloadn gL_0) ?_
    refine jr_get (pc_q := 180) (i := 34) (v := .ref 84) rfl rfl (by decide) rfl rfl ?_
    refine jx_ld (pc_q := 181) (l_q := L) (st_q := [.int (i32 (p)), .ref 84, .ref 66]) rfl (jl_iloadn gL_1) ?_
    have b101 : (-2147483648 : Int) ≤ T0 17 (p).toNat ∧ T0 17 (p).toNat ≤ 2147483647 := hWT.2 17 _
    refine jr_ldv (pc_q := 182) (i := 17) (m := 7000) (z := p) (y := T0 17 (p).toNat) rfl (by decide) rfl (by decide) (by omega) (by omega) rfl (show A73 17 (p).toNat = T0 17 (p).toNat from (congrFun ((hF78.2 17 rfl).trans ((hFx.2 17 rfl).trans (p_0 17 rfl))) _)) ?_
    refine jx_vr (pc_q := 185) (as := [.int (i32 (T0 17 (p).toNat))]) (st := []) rfl rfl rfl rfl ⟨rfl, rfl, Nat.le_of_ble_eq_true rfl⟩ rfl rfl (c_genStore (dd := d) (hd := by omega) (hW := hW77) (x := T0 17 (p).toNat) (lo := lo) (hi := p) (st := st2_74) (e_st := show G72 70 = st2_74 from (e80)) (lg := lg2_75) (e_lg := show G72 79 = lg2_75 from (e81)) (lb := lb2_76) (e_lb := show G72 77 = lb2_76 from (e82)) (nw := nw) (e_nw := show G72 81 = nw from ((hF78.1 81 rfl).trans (fx_81)))  (h_x := ⟨(Int.le_trans (by decide : (-2147483648 : Int) ≤ -2147483648) b101.1), (Int.le_trans b101.2 (by decide : (2147483647 : Int) ≤ 2147483647))⟩)  (p_0 := (TA_fr hF93 (by decide) p_0)) (p_1 := sf97) (p_2 := sf98) (p_3 := hVW1) (p_4 := by omega) (p_5 := by omega) (p_6 := by omega) (p_7 := by omega) (p_8 := by omega) (p_9 := by omega) (p_10 := by omega) (p_11 := by omega) (p_12 := by omega) (p_13 := g2)) (fun o V_q hq => ?_)
    obtain ⟨G102, A103, st2_104, lg2_105, lb2_106, rfl, rfl, hW107, hF108, hQ109, e110, e111, e112, p113, p114, p115, p116, p117, p118, p119, p120, p121, -⟩ := hq
    have hF123 := Fr_tr hF93 hF108 (Fr_sub (by decide)) (Fr_sub (by decide))
    have hC124 := Fx_tr hC94 hQ109 (by omega)
    have hAl125 := Fx_f hAl95 hF108 (by decide)
    have hBp126 := Fx_f hBp96 hF108 (by decide)
    have sf127 := FA_fr (hF108.2 51 rfl) sf97
    have sf128 := SA_fr (hF108.2 13 rfl) sf98
    have bst2_104 : (-2147483648 : Int) ≤ st2_104 ∧ st2_104 ≤ 2147483647 := e110 ▸ hW107.1 70
    have blg2_105 : (0 : Int) ≤ lg2_105 ∧ lg2_105 ≤ 1 := e111 ▸ hW107.1 79
    have blb2_106 : (-2147483648 : Int) ≤ lb2_106 ∧ lb2_106 ≤ 2147483647 := e112 ▸ hW107.1 77
    refine .inl ⟨rfl, ?_⟩
    have sf129 : Cd (lg2_105 = 0 ∧ lb2_106 < 19999) (gN T0 A103 F (nw) (T0 23 (p).toNat) ((T0 24 (p).toNat).toNat) (st) (st1)) := Cd_mk (fun hC => gN_mv (Cg_fx (l0 := 0) (l1 := 0) hQ109 (Cd_ap p120 (by omega)) (by omega)) (by omega) (Cd_ap sf99 (by omega)))
    have sf130 : Cd (lg2_105 = 0 ∧ lb2_106 < 19999) (gE T0 A103 F Sn nw (22) (T0 18 (p).toNat) (st1) (st2_74) (lb) (lb2_76)) := Cd_mk (fun hC => gE_mv (Cg_fx (l0 := lb) (l1 := lb2_76) hQ109 (Cd_ap p120 (by omega)) (by omega)) (by omega) (Cd_ap p91 (by omega)))
    have hBo131 : Cd (lg2_105 = 0 ∧ lb2_106 < 19999) (Fx [50] (lb + 1) A A103) := Cd_mk (fun hC => Fx_tr (Cd_ap hBo100 (by omega)) (Cd_ap p120 (by omega)) (by omega))
    refine jx_go (tg := 373) rfl rfl ?_
    refine jx_rt (v := none) rfl rfl rfl rfl rfl rfl ?_
    exact ⟨_, _, st2_104, lg2_105, lb2_106, nw, al, fw1, rfl, rfl, hW107, hF123, hC124, hAl125, hBp126, (e110), (e111), (e112), ((hF108.1 81 rfl).trans ((hF78.1 81 rfl).trans (fx_81))), ((hF108.1 89 rfl).trans ((hF78.1 89 rfl).trans (fx_89))), (congrFun ((hF108.2 51 rfl).trans (hF78.2 51 rfl)) _).trans (ex_fw1), by omega, by omega, by omega, by omega, by omega, (Cd_mk (fun hC => by have := Cd_ap p88 (by omega); have := Cd_ap p118 (by omega); omega)), by omega, (Cd_mk (fun hC => Cd_ap hBo131 (by omega))), by omega, by omega, by omega, sf127, (SA_su Vd_l sf128), (Cd_mk (fun hC => (gP_mk (by omega) (Cd_ap sf129 (by omega)) (.inr (.inr (.inl ⟨hkd, _, lb2_76, by omega, by omega, (Cd_ap sf130 (by omega)), (Cd_ap p121 (by omega))⟩)))))), trivial⟩
  · refine jx_swe (z := 23) (tg := 188) h46 rfl rfl rfl rfl ?_
    have hkd : T0 15 (p).toNat = 23 := (by omega); obtain ⟨g1, g2, g3⟩ := wS_i23 w8 hkd
    refine jx_ld (pc_q := 189) (l_q := L) (st_q := [.ref 66]) rfl (jl_aloadn gL_0) ?_
    refine jx_ld (pc_q := 190) (l_q := L) (st_q := [.ref 66, .ref 66]) rfl (jl_aloadn gL_0) ?_
    refine jr_get (pc_q := 193) (i := 35) (v := .ref 85) rfl rfl (by decide) rfl rfl ?_
    refine jx_ld (pc_q := 194) (l_q := L) (st_q := [.int (i32 (p)), .ref 85, .ref 66]) rfl (jl_iloadn gL_1) ?_
    have b132 : (-2147483648 : Int) ≤ T0 18 (p).toNat ∧ T0 18 (p).toNat ≤ 2147483647 := hWT.2 18 _
    refine jr_ldv (pc_q := 195) (i := 18) (m := 7000) (z := p) (y := T0 18 (p).toNat) rfl (by decide) rfl (by decide) (by omega) (by omega) rfl (show Ax 18 (p).toNat = T0 18 (p).toNat from (congrFun ((hFx.2 18 rfl).trans (p_0 18 rfl)) _)) ?_
    refine jx_vr (pc_q := 198) (as := [.int (i32 (T0 18 (p).toNat))]) (st := []) rfl rfl rfl rfl ⟨rfl, rfl, Nat.le_of_ble_eq_true rfl⟩ rfl rfl (GE_all X 22 (dd := d) (hd := by omega) (hW := hWx) (e := T0 18 (p).toNat) (lo := p + 1) (hi := hi) (st := st1) (e_st := show Gx 70 = st1 from (ex_st1)) (lg := lg1) (e_lg := show Gx 79 = lg1 from (ex_lg1)) (lb := lb) (e_lb := show Gx 77 = lb from (fx_77)) (nw := nw) (e_nw := show Gx 81 = nw from (fx_81))  (h_e := ⟨(Int.le_trans (by decide : (-2147483648 : Int) ≤ -2147483648) b132.1), (Int.le_trans b132.2 (by decide : (2147483647 : Int) ≤ 2147483647))⟩)  (p_0 := (TA_fr hFx (by decide) p_0)) (p_1 := iv_5) (p_2 := iv_6) (p_3 := hVW1) (p_4 := by omega) (p_5 := by omega) (p_6 := by omega) (p_7 := by omega) (p_8 := by omega) (p_9 := by omega) (p_10 := by omega) (p_11 := by omega) (p_12 := by omega) (p_13 := (wE_mono (by omega) (by omega) (by omega) g3)) (p_14 := by omega)) (fun o V_q hq => ?_)
    obtain ⟨G133, A134, st2_135, lg2_136, lb2_137, rfl, rfl, hW138, hF139, hQ140, e141, e142, e143, p144, p145, p146, p147, p148, p149, p150, p151, p152, -⟩ := hq
    have hF154 := Fr_tr hFx hF139 (Fr_sub (by decide)) (Fr_sub (by decide))
    have hC155 := Fx_tr hCx hQ140 (by omega)
    have hAl156 := Fx_f hAlx hF139 (by decide)
    have hBp157 := Fx_f hBpx hF139 (by decide)
    have sf158 := FA_fr (hF139.2 51 rfl) iv_5
    have sf159 := SA_fr (hF139.2 13 rfl) iv_6
    have bst2_135 : (-2147483648 : Int) ≤ st2_135 ∧ st2_135 ≤ 2147483647 := e141 ▸ hW138.1 70
    have blg2_136 : (0 : Int) ≤ lg2_136 ∧ lg2_136 ≤ 1 := e142 ▸ hW138.1 79
    have blb2_137 : (-2147483648 : Int) ≤ lb2_137 ∧ lb2_137 ≤ 2147483647 := e143 ▸ hW138.1 77
    refine .inl ⟨rfl, ?_⟩
    have sf160 : Cd (lg2_136 = 0 ∧ lb2_137 < 19999) (gN T0 A134 F (nw) (T0 23 (p).toNat) ((T0 24 (p).toNat).toNat) (st) (st1)) := Cd_mk (fun hC => gN_mv (Cg_fx (l0 := 0) (l1 := 0) hQ140 (Cd_ap p151 (by omega)) (by omega)) (by omega) (Cd_ap iv_7 (by omega)))
    have hBo161 : Cd (lg2_136 = 0 ∧ lb2_137 < 19999) (Fx [50] (lb + 1) A A134) := Cd_mk (fun hC => Fx_tr (Cd_ap hBox (by omega)) (Cd_ap p151 (by omega)) (by omega))
    refine jx_ld (pc_q := 199) (l_q := L) (st_q := [.ref 66]) rfl (jl_aloadn gL_0) ?_
    refine jx_ld (pc_q := 200) (l_q := L) (st_q := [.ref 66, .ref 66]) rfl (jl_aloadn gL_0) ?_
    refine jr_get (pc_q := 203) (i := 34) (v := .ref 84) rfl rfl (by decide) rfl rfl ?_
    refine jx_ld (pc_q := 204) (l_q := L) (st_q := [.int (i32 (p)), .ref 84, .ref 66]) rfl (jl_iloadn gL_1) ?_
    have b162 : (-2147483648 : Int) ≤ T0 17 (p).toNat ∧ T0 17 (p).toNat ≤ 2147483647 := hWT.2 17 _
    refine jr_ldv (pc_q := 205) (i := 17) (m := 7000) (z := p) (y := T0 17 (p).toNat) rfl (by decide) rfl (by decide) (by omega) (by omega) rfl (show A134 17 (p).toNat = T0 17 (p).toNat from (congrFun ((hF139.2 17 rfl).trans ((hFx.2 17 rfl).trans (p_0 17 rfl))) _)) ?_
    refine jx_vr (pc_q := 208) (as := [.int (i32 (T0 17 (p).toNat))]) (st := []) rfl rfl rfl rfl ⟨rfl, rfl, Nat.le_of_ble_eq_true rfl⟩ rfl rfl (c_genAddress (dd := d) (k := 20) (hG := GE_all X 20) (hd := by omega) (hW := hW138) (x := T0 17 (p).toNat) (lo := lo) (hi := p) (st := st2_135) (e_st := show G133 70 = st2_135 from (e141)) (lg := lg2_136) (e_lg := show G133 79 = lg2_136 from (e142)) (lb := lb2_137) (e_lb := show G133 77 = lb2_137 from (e143)) (nw := nw) (e_nw := show G133 81 = nw from ((hF139.1 81 rfl).trans (fx_81)))  (h_x := ⟨(Int.le_trans (by decide : (-2147483648 : Int) ≤ -2147483648) b162.1), (Int.le_trans b162.2 (by decide : (2147483647 : Int) ≤ 2147483647))⟩)  (p_0 := (TA_fr hF154 (by decide) p_0)) (p_1 := sf158) (p_2 := sf159) (p_3 := hVW1) (p_4 := by omega) (p_5 := by omega) (p_6 := by omega) (p_7 := by omega) (p_8 := by omega) (p_9 := by omega) (p_10 := by omega) (p_11 := by omega) (p_12 := by omega) (p_13 := (pX_wR g2)) (p_14 := by omega)) (fun o V_q hq => ?_)
    obtain ⟨G163, A164, st2_165, lg2_166, lb2_167, rfl, rfl, hW168, hF169, hQ170, e171, e172, e173, p174, p175, p176, p177, p178, p179, p180, p181, p182, -⟩ := hq
    have hF184 := Fr_tr hF154 hF169 (Fr_sub (by decide)) (Fr_sub (by decide))
    have hC185 := Fx_tr hC155 hQ170 (by omega)
    have hAl186 := Fx_f hAl156 hF169 (by decide)
    have hBp187 := Fx_f hBp157 hF169 (by decide)
    have sf188 := FA_fr (hF169.2 51 rfl) sf158
    have sf189 := SA_fr (hF169.2 13 rfl) sf159
    have bst2_165 : (-2147483648 : Int) ≤ st2_165 ∧ st2_165 ≤ 2147483647 := e171 ▸ hW168.1 70
    have blg2_166 : (0 : Int) ≤ lg2_166 ∧ lg2_166 ≤ 1 := e172 ▸ hW168.1 79
    have blb2_167 : (-2147483648 : Int) ≤ lb2_167 ∧ lb2_167 ≤ 2147483647 := e173 ▸ hW168.1 77
    refine .inl ⟨rfl, ?_⟩
    have sf190 : Cd (lg2_166 = 0 ∧ lb2_167 < 19999) (gN T0 A164 F (nw) (T0 23 (p).toNat) ((T0 24 (p).toNat).toNat) (st) (st1)) := Cd_mk (fun hC => gN_mv (Cg_fx (l0 := 0) (l1 := 0) hQ170 (Cd_ap p181 (by omega)) (by omega)) (by omega) (Cd_ap sf160 (by omega)))
    have sf191 : Cd (lg2_166 = 0 ∧ lb2_167 < 19999) (gE T0 A164 F Sn nw (22) (T0 18 (p).toNat) (st1) (st2_135) (lb) (lb2_137)) := Cd_mk (fun hC => gE_mv (Cg_fx (l0 := lb) (l1 := lb2_137) hQ170 (Cd_ap p181 (by omega)) (by omega)) (by omega) (Cd_ap p152 (by omega)))
    have hBo192 : Cd (lg2_166 = 0 ∧ lb2_167 < 19999) (Fx [50] (lb + 1) A A164) := Cd_mk (fun hC => Fx_tr (Cd_ap hBo161 (by omega)) (Cd_ap p181 (by omega)) (by omega))
    refine jx_ld (pc_q := 209) (l_q := L) (st_q := [.ref 66]) rfl (jl_aloadn gL_0) ?_
    refine jx_ar (pc_q := 211) (st_q := [.int (i32 (21)), .ref 66]) rfl rfl rfl rfl ?_
    refine jx_vr (pc_q := 214) (as := [.int (i32 (21))]) (st := []) rfl rfl rfl rfl ⟨rfl, rfl, Nat.le_of_ble_eq_true rfl⟩ rfl rfl (c_op (dd := d) (hd := by omega) (hW := hW168) (oo := 21) (st := st2_165) (e_st := show G163 70 = st2_165 from (e171)) (lg := lg2_166) (e_lg := show G163 79 = lg2_166 from (e172))  (h_oo := ⟨(by decide), (by decide)⟩)  (p_0 := by omega) (p_1 := by omega)) (fun o V_q hq => ?_)
    obtain ⟨G193, A194, st2_195, lg2_196, rfl, rfl, hW197, hF198, hQ199, e200, e201, p202, p203, p204, p205, p206, p207, -⟩ := hq
    have hF209 := Fr_tr hF184 hF198 (Fr_sub (by decide)) (Fr_sub (by decide))
    have hC210 := Fx_tr hC185 hQ199 (by omega)
    have hAl211 := Fx_f hAl186 hF198 (by decide)
    have hBp212 := Fx_f hBp187 hF198 (by decide)
    have sf213 := FA_fr (hF198.2 51 rfl) sf188
    have sf214 := SA_fr (hF198.2 13 rfl) sf189
    have bst2_195 : (-2147483648 : Int) ≤ st2_195 ∧ st2_195 ≤ 2147483647 := e200 ▸ hW197.1 70
    have blg2_196 : (0 : Int) ≤ lg2_196 ∧ lg2_196 ≤ 1 := e201 ▸ hW197.1 79
    refine .inl ⟨rfl, ?_⟩
    have sf215 : Cd (lg2_196 = 0 ∧ lb2_167 < 19999) (gN T0 A194 F (nw) (T0 23 (p).toNat) ((T0 24 (p).toNat).toNat) (st) (st1)) := Cd_mk (fun hC => gN_mv (Cg_fx (l0 := 0) (l1 := 0) hQ199 (Fx_f (w := 0 + 1) Fx_rf hF198 (by decide)) (by omega)) (by omega) (Cd_ap sf190 (by omega)))
    have sf216 : Cd (lg2_196 = 0 ∧ lb2_167 < 19999) (gE T0 A194 F Sn nw (22) (T0 18 (p).toNat) (st1) (st2_135) (lb) (lb2_137)) := Cd_mk (fun hC => gE_mv (Cg_fx (l0 := lb) (l1 := lb2_137) hQ199 (Fx_f (w := lb2_137 + 1) Fx_rf hF198 (by decide)) (by omega)) (by omega) (Cd_ap sf191 (by omega)))
    have sf217 : Cd (lg2_196 = 0 ∧ lb2_167 < 19999) (gD T0 A194 F Sn nw (20) (T0 17 (p).toNat) (st2_135) (st2_165) (lb2_137) (lb2_167)) := Cd_mk (fun hC => gD_mv (Cg_fx (l0 := lb2_137) (l1 := lb2_167) hQ199 (Fx_f (w := lb2_167 + 1) Fx_rf hF198 (by decide)) (by omega)) (by omega) (Cd_ap p182 (by omega)))
    have hBo218 : Cd (lg2_196 = 0 ∧ lb2_167 < 19999) (Fx [50] (lb + 1) A A194) := Cd_mk (fun hC => Fx_f (Cd_ap hBo192 (by omega)) hF198 (by decide))
    refine jx_go (tg := 373) rfl rfl ?_
    refine jx_rt (v := none) rfl rfl rfl rfl rfl rfl ?_
    exact ⟨_, _, st2_195, lg2_196, lb2_167, nw, al, fw1, rfl, rfl, hW197, hF209, hC210, hAl211, hBp212, (e200), (e201), ((hF198.1 77 rfl).trans (e173)), ((hF198.1 81 rfl).trans ((hF169.1 81 rfl).trans ((hF139.1 81 rfl).trans (fx_81)))), ((hF198.1 89 rfl).trans ((hF169.1 89 rfl).trans ((hF139.1 89 rfl).trans (fx_89)))), (congrFun ((hF198.2 51 rfl).trans ((hF169.2 51 rfl).trans (hF139.2 51 rfl))) _).trans (ex_fw1), by omega, by omega, by omega, by omega, by omega, (Cd_mk (fun hC => by have := Cd_ap p149 (by omega); have := Cd_ap p179 (by omega); omega)), by omega, (Cd_mk (fun hC => Cd_ap hBo218 (by omega))), by omega, by omega, by omega, sf213, (SA_su Vd_l sf214), (Cd_mk (fun hC => (gP_mk (by omega) (Cd_ap sf215 (by omega)) (.inr (.inr (.inr (.inl ⟨hkd, _, _, lb2_137, by omega, by omega, (Cd_ap sf216 (by omega)), (Cd_ap sf217 (by omega)), (Cd_ap p207 (by omega))⟩))))))), trivial⟩
  · refine jx_swe (z := 24) (tg := 217) h46 rfl rfl rfl rfl ?_
    have hkd : T0 15 (p).toNat = 24 := (by omega); obtain ⟨g1, g2, g3⟩ := wS_i24 w8 hkd
    refine jx_ld (pc_q := 218) (l_q := L) (st_q := [.ref 66]) rfl (jl_aloadn gL_0) ?_
    refine jx_ld (pc_q := 219) (l_q := L) (st_q := [.ref 66, .ref 66]) rfl (jl_aloadn gL_0) ?_
    refine jr_get (pc_q := 222) (i := 35) (v := .ref 85) rfl rfl (by decide) rfl rfl ?_
    refine jx_ld (pc_q := 223) (l_q := L) (st_q := [.int (i32 (p)), .ref 85, .ref 66]) rfl (jl_iloadn gL_1) ?_
    have b219 : (-2147483648 : Int) ≤ T0 18 (p).toNat ∧ T0 18 (p).toNat ≤ 2147483647 := hWT.2 18 _
    refine jr_ldv (pc_q := 224) (i := 18) (m := 7000) (z := p) (y := T0 18 (p).toNat) rfl (by decide) rfl (by decide) (by omega) (by omega) rfl (show Ax 18 (p).toNat = T0 18 (p).toNat from (congrFun ((hFx.2 18 rfl).trans (p_0 18 rfl)) _)) ?_
    refine jx_vr (pc_q := 227) (as := [.int (i32 (T0 18 (p).toNat))]) (st := []) rfl rfl rfl rfl ⟨rfl, rfl, Nat.le_of_ble_eq_true rfl⟩ rfl rfl (c_genAddress (dd := d) (k := 20) (hG := GE_all X 20) (hd := by omega) (hW := hWx) (x := T0 18 (p).toNat) (lo := p + 1) (hi := hi) (st := st1) (e_st := show Gx 70 = st1 from (ex_st1)) (lg := lg1) (e_lg := show Gx 79 = lg1 from (ex_lg1)) (lb := lb) (e_lb := show Gx 77 = lb from (fx_77)) (nw := nw) (e_nw := show Gx 81 = nw from (fx_81))  (h_x := ⟨(Int.le_trans (by decide : (-2147483648 : Int) ≤ -2147483648) b219.1), (Int.le_trans b219.2 (by decide : (2147483647 : Int) ≤ 2147483647))⟩)  (p_0 := (TA_fr hFx (by decide) p_0)) (p_1 := iv_5) (p_2 := iv_6) (p_3 := hVW1) (p_4 := by omega) (p_5 := by omega) (p_6 := by omega) (p_7 := by omega) (p_8 := by omega) (p_9 := by omega) (p_10 := by omega) (p_11 := by omega) (p_12 := by omega) (p_13 := (pX_wR g3)) (p_14 := by omega)) (fun o V_q hq => ?_)
    obtain ⟨G220, A221, st2_222, lg2_223, lb2_224, rfl, rfl, hW225, hF226, hQ227, e228, e229, e230, p231, p232, p233, p234, p235, p236, p237, p238, p239, -⟩ := hq
    have hF241 := Fr_tr hFx hF226 (Fr_sub (by decide)) (Fr_sub (by decide))
    have hC242 := Fx_tr hCx hQ227 (by omega)
    have hAl243 := Fx_f hAlx hF226 (by decide)
    have hBp244 := Fx_f hBpx hF226 (by decide)
    have sf245 := FA_fr (hF226.2 51 rfl) iv_5
    have sf246 := SA_fr (hF226.2 13 rfl) iv_6
    have bst2_222 : (-2147483648 : Int) ≤ st2_222 ∧ st2_222 ≤ 2147483647 := e228 ▸ hW225.1 70
    have blg2_223 : (0 : Int) ≤ lg2_223 ∧ lg2_223 ≤ 1 := e229 ▸ hW225.1 79
    have blb2_224 : (-2147483648 : Int) ≤ lb2_224 ∧ lb2_224 ≤ 2147483647 := e230 ▸ hW225.1 77
    refine .inl ⟨rfl, ?_⟩
    have sf247 : Cd (lg2_223 = 0 ∧ lb2_224 < 19999) (gN T0 A221 F (nw) (T0 23 (p).toNat) ((T0 24 (p).toNat).toNat) (st) (st1)) := Cd_mk (fun hC => gN_mv (Cg_fx (l0 := 0) (l1 := 0) hQ227 (Cd_ap p238 (by omega)) (by omega)) (by omega) (Cd_ap iv_7 (by omega)))
    have hBo248 : Cd (lg2_223 = 0 ∧ lb2_224 < 19999) (Fx [50] (lb + 1) A A221) := Cd_mk (fun hC => Fx_tr (Cd_ap hBox (by omega)) (Cd_ap p238 (by omega)) (by omega))
    refine jx_ld (pc_q := 228) (l_q := L) (st_q := [.ref 66]) rfl (jl_aloadn gL_0) ?_
    refine jx_ld (pc_q := 229) (l_q := L) (st_q := [.ref 66, .ref 66]) rfl (jl_aloadn gL_0) ?_
    refine jr_get (pc_q := 232) (i := 34) (v := .ref 84) rfl rfl (by decide) rfl rfl ?_
    refine jx_ld (pc_q := 233) (l_q := L) (st_q := [.int (i32 (p)), .ref 84, .ref 66]) rfl (jl_iloadn gL_1) ?_
    have b249 : (-2147483648 : Int) ≤ T0 17 (p).toNat ∧ T0 17 (p).toNat ≤ 2147483647 := hWT.2 17 _
    refine jr_ldv (pc_q := 234) (i := 17) (m := 7000) (z := p) (y := T0 17 (p).toNat) rfl (by decide) rfl (by decide) (by omega) (by omega) rfl (show A221 17 (p).toNat = T0 17 (p).toNat from (congrFun ((hF226.2 17 rfl).trans ((hFx.2 17 rfl).trans (p_0 17 rfl))) _)) ?_
    refine jx_vr (pc_q := 237) (as := [.int (i32 (T0 17 (p).toNat))]) (st := []) rfl rfl rfl rfl ⟨rfl, rfl, Nat.le_of_ble_eq_true rfl⟩ rfl rfl (c_genAddress (dd := d) (k := 20) (hG := GE_all X 20) (hd := by omega) (hW := hW225) (x := T0 17 (p).toNat) (lo := lo) (hi := p) (st := st2_222) (e_st := show G220 70 = st2_222 from (e228)) (lg := lg2_223) (e_lg := show G220 79 = lg2_223 from (e229)) (lb := lb2_224) (e_lb := show G220 77 = lb2_224 from (e230)) (nw := nw) (e_nw := show G220 81 = nw from ((hF226.1 81 rfl).trans (fx_81)))  (h_x := ⟨(Int.le_trans (by decide : (-2147483648 : Int) ≤ -2147483648) b249.1), (Int.le_trans b249.2 (by decide : (2147483647 : Int) ≤ 2147483647))⟩)  (p_0 := (TA_fr hF241 (by decide) p_0)) (p_1 := sf245) (p_2 := sf246) (p_3 := hVW1) (p_4 := by omega) (p_5 := by omega) (p_6 := by omega) (p_7 := by omega) (p_8 := by omega) (p_9 := by omega) (p_10 := by omega) (p_11 := by omega) (p_12 := by omega) (p_13 := (pX_wR g2)) (p_14 := by omega)) (fun o V_q hq => ?_)
    obtain ⟨G250, A251, st2_252, lg2_253, lb2_254, rfl, rfl, hW255, hF256, hQ257, e258, e259, e260, p261, p262, p263, p264, p265, p266, p267, p268, p269, -⟩ := hq
    have hF271 := Fr_tr hF241 hF256 (Fr_sub (by decide)) (Fr_sub (by decide))
    have hC272 := Fx_tr hC242 hQ257 (by omega)
    have hAl273 := Fx_f hAl243 hF256 (by decide)
    have hBp274 := Fx_f hBp244 hF256 (by decide)
    have sf275 := FA_fr (hF256.2 51 rfl) sf245
    have sf276 := SA_fr (hF256.2 13 rfl) sf246
    have bst2_252 : (-2147483648 : Int) ≤ st2_252 ∧ st2_252 ≤ 2147483647 := e258 ▸ hW255.1 70
    have blg2_253 : (0 : Int) ≤ lg2_253 ∧ lg2_253 ≤ 1 := e259 ▸ hW255.1 79
    have blb2_254 : (-2147483648 : Int) ≤ lb2_254 ∧ lb2_254 ≤ 2147483647 := e260 ▸ hW255.1 77
    refine .inl ⟨rfl, ?_⟩
    have sf277 : Cd (lg2_253 = 0 ∧ lb2_254 < 19999) (gN T0 A251 F (nw) (T0 23 (p).toNat) ((T0 24 (p).toNat).toNat) (st) (st1)) := Cd_mk (fun hC => gN_mv (Cg_fx (l0 := 0) (l1 := 0) hQ257 (Cd_ap p268 (by omega)) (by omega)) (by omega) (Cd_ap sf247 (by omega)))
    have sf278 : Cd (lg2_253 = 0 ∧ lb2_254 < 19999) (gD T0 A251 F Sn nw (20) (T0 18 (p).toNat) (st1) (st2_222) (lb) (lb2_224)) := Cd_mk (fun hC => gD_mv (Cg_fx (l0 := lb) (l1 := lb2_224) hQ257 (Cd_ap p268 (by omega)) (by omega)) (by omega) (Cd_ap p239 (by omega)))
    have hBo279 : Cd (lg2_253 = 0 ∧ lb2_254 < 19999) (Fx [50] (lb + 1) A A251) := Cd_mk (fun hC => Fx_tr (Cd_ap hBo248 (by omega)) (Cd_ap p268 (by omega)) (by omega))
    refine jx_ld (pc_q := 238) (l_q := L) (st_q := [.ref 66]) rfl (jl_aloadn gL_0) ?_
    refine jx_ar (pc_q := 240) (st_q := [.int (i32 (20)), .ref 66]) rfl rfl rfl rfl ?_
    refine jx_vr (pc_q := 243) (as := [.int (i32 (20))]) (st := []) rfl rfl rfl rfl ⟨rfl, rfl, Nat.le_of_ble_eq_true rfl⟩ rfl rfl (c_op (dd := d) (hd := by omega) (hW := hW255) (oo := 20) (st := st2_252) (e_st := show G250 70 = st2_252 from (e258)) (lg := lg2_253) (e_lg := show G250 79 = lg2_253 from (e259))  (h_oo := ⟨(by decide), (by decide)⟩)  (p_0 := by omega) (p_1 := by omega)) (fun o V_q hq => ?_)
    obtain ⟨G280, A281, st2_282, lg2_283, rfl, rfl, hW284, hF285, hQ286, e287, e288, p289, p290, p291, p292, p293, p294, -⟩ := hq
    have hF296 := Fr_tr hF271 hF285 (Fr_sub (by decide)) (Fr_sub (by decide))
    have hC297 := Fx_tr hC272 hQ286 (by omega)
    have hAl298 := Fx_f hAl273 hF285 (by decide)
    have hBp299 := Fx_f hBp274 hF285 (by decide)
    have sf300 := FA_fr (hF285.2 51 rfl) sf275
    have sf301 := SA_fr (hF285.2 13 rfl) sf276
    have bst2_282 : (-2147483648 : Int) ≤ st2_282 ∧ st2_282 ≤ 2147483647 := e287 ▸ hW284.1 70
    have blg2_283 : (0 : Int) ≤ lg2_283 ∧ lg2_283 ≤ 1 := e288 ▸ hW284.1 79
    refine .inl ⟨rfl, ?_⟩
    have sf302 : Cd (lg2_283 = 0 ∧ lb2_254 < 19999) (gN T0 A281 F (nw) (T0 23 (p).toNat) ((T0 24 (p).toNat).toNat) (st) (st1)) := Cd_mk (fun hC => gN_mv (Cg_fx (l0 := 0) (l1 := 0) hQ286 (Fx_f (w := 0 + 1) Fx_rf hF285 (by decide)) (by omega)) (by omega) (Cd_ap sf277 (by omega)))
    have sf303 : Cd (lg2_283 = 0 ∧ lb2_254 < 19999) (gD T0 A281 F Sn nw (20) (T0 18 (p).toNat) (st1) (st2_222) (lb) (lb2_224)) := Cd_mk (fun hC => gD_mv (Cg_fx (l0 := lb) (l1 := lb2_224) hQ286 (Fx_f (w := lb2_224 + 1) Fx_rf hF285 (by decide)) (by omega)) (by omega) (Cd_ap sf278 (by omega)))
    have sf304 : Cd (lg2_283 = 0 ∧ lb2_254 < 19999) (gD T0 A281 F Sn nw (20) (T0 17 (p).toNat) (st2_222) (st2_252) (lb2_224) (lb2_254)) := Cd_mk (fun hC => gD_mv (Cg_fx (l0 := lb2_224) (l1 := lb2_254) hQ286 (Fx_f (w := lb2_254 + 1) Fx_rf hF285 (by decide)) (by omega)) (by omega) (Cd_ap p269 (by omega)))
    have hBo305 : Cd (lg2_283 = 0 ∧ lb2_254 < 19999) (Fx [50] (lb + 1) A A281) := Cd_mk (fun hC => Fx_f (Cd_ap hBo279 (by omega)) hF285 (by decide))
    refine jx_go (tg := 373) rfl rfl ?_
    refine jx_rt (v := none) rfl rfl rfl rfl rfl rfl ?_
    exact ⟨_, _, st2_282, lg2_283, lb2_254, nw, al, fw1, rfl, rfl, hW284, hF296, hC297, hAl298, hBp299, (e287), (e288), ((hF285.1 77 rfl).trans (e260)), ((hF285.1 81 rfl).trans ((hF256.1 81 rfl).trans ((hF226.1 81 rfl).trans (fx_81)))), ((hF285.1 89 rfl).trans ((hF256.1 89 rfl).trans ((hF226.1 89 rfl).trans (fx_89)))), (congrFun ((hF285.2 51 rfl).trans ((hF256.2 51 rfl).trans (hF226.2 51 rfl))) _).trans (ex_fw1), by omega, by omega, by omega, by omega, by omega, (Cd_mk (fun hC => by have := Cd_ap p236 (by omega); have := Cd_ap p266 (by omega); omega)), by omega, (Cd_mk (fun hC => Cd_ap hBo305 (by omega))), by omega, by omega, by omega, sf300, (SA_su Vd_l sf301), (Cd_mk (fun hC => (gP_mk (by omega) (Cd_ap sf302 (by omega)) (.inr (.inr (.inr (.inr (.inl ⟨hkd, _, _, lb2_224, by omega, by omega, (Cd_ap sf303 (by omega)), (Cd_ap sf304 (by omega)), (Cd_ap p294 (by omega))⟩)))))))), trivial⟩
  · refine jx_swe (z := 25) (tg := 246) h46 rfl rfl rfl rfl ?_
    have hkd : T0 15 (p).toNat = 25 := (by omega); obtain ⟨g1, g2, g3, l0, ch0, g4, g5⟩ := wS_i25 w8 hkd
    refine jx_ld (pc_q := 247) (l_q := L) (st_q := [.ref 66]) rfl (jl_aloadn gL_0) ?_
    refine jx_ld (pc_q := 248) (l_q := L) (st_q := [.int (i32 (p)), .ref 66]) rfl (jl_iloadn gL_1) ?_
    refine jx_vr (pc_q := 251) (as := [.int (i32 (p))]) (st := []) rfl rfl rfl rfl ⟨rfl, rfl, Nat.le_of_ble_eq_true rfl⟩ rfl rfl (c_genCall (dd := d) (hd := by omega) (hW := hWx) (n := p) (hi := hi) (st := st1) (e_st := show Gx 70 = st1 from (ex_st1)) (lg := lg1) (e_lg := show Gx 79 = lg1 from (ex_lg1)) (lb := lb) (e_lb := show Gx 77 = lb from (fx_77)) (nw := nw) (e_nw := show Gx 81 = nw from (fx_81))  (h_n := ⟨(Int.le_trans (by decide : (-2147483648 : Int) ≤ -2147483648) h_p.1), (Int.le_trans h_p.2 (by decide : (2147483647 : Int) ≤ 2147483647))⟩)  (p_0 := (TA_fr hFx (by decide) p_0)) (p_1 := iv_5) (p_2 := iv_6) (p_3 := hVW1) (p_4 := by omega) (p_5 := by omega) (p_6 := by omega) (p_7 := by omega) (p_8 := by omega) (p_9 := by omega) (p_10 := by omega) (p_11 := by omega) (p_12 := (LAr_0 ch0 g4 g5 rfl)) (p_13 := by omega) (p_14 := by omega) (p_15 := by omega) (p_16 := by omega) (p_17 := by omega) (p_18 := p_28) (p_19 := (PA_fr (hFx.2 52 rfl) p_29))) (fun o V_q hq => ?_)
    obtain ⟨G306, A307, st2_308, lg2_309, lb2_310, rfl, rfl, hW311, hF312, hQ313, e314, e315, e316, p317, p318, p319, p320, p321, p322, p323, p324, p325, -⟩ := hq
    have hF327 := Fr_tr hFx hF312 (Fr_sub (by decide)) (Fr_sub (by decide))
    have hC328 := Fx_tr hCx hQ313 (by omega)
    have hAl329 := Fx_f hAlx hF312 (by decide)
    have hBp330 := Fx_f hBpx hF312 (by decide)
    have sf331 := FA_fr (hF312.2 51 rfl) iv_5
    have sf332 := SA_fr (hF312.2 13 rfl) iv_6
    have bst2_308 : (-2147483648 : Int) ≤ st2_308 ∧ st2_308 ≤ 2147483647 := e314 ▸ hW311.1 70
    have blg2_309 : (0 : Int) ≤ lg2_309 ∧ lg2_309 ≤ 1 := e315 ▸ hW311.1 79
    have blb2_310 : (-2147483648 : Int) ≤ lb2_310 ∧ lb2_310 ≤ 2147483647 := e316 ▸ hW311.1 77
    refine .inl ⟨rfl, ?_⟩
    have sf333 : Cd (lg2_309 = 0 ∧ lb2_310 < 19999) (gN T0 A307 F (nw) (T0 23 (p).toNat) ((T0 24 (p).toNat).toNat) (st) (st1)) := Cd_mk (fun hC => gN_mv (Cg_fx (l0 := 0) (l1 := 0) hQ313 (Cd_ap p324 (by omega)) (by omega)) (by omega) (Cd_ap iv_7 (by omega)))
    have hBo334 : Cd (lg2_309 = 0 ∧ lb2_310 < 19999) (Fx [50] (lb + 1) A A307) := Cd_mk (fun hC => Fx_tr (Cd_ap hBox (by omega)) (Cd_ap p324 (by omega)) (by omega))
    refine jx_go (tg := 373) rfl rfl ?_
    refine jx_rt (v := none) rfl rfl rfl rfl rfl rfl ?_
    exact ⟨_, _, st2_308, lg2_309, lb2_310, nw, al, fw1, rfl, rfl, hW311, hF327, hC328, hAl329, hBp330, (e314), (e315), (e316), ((hF312.1 81 rfl).trans (fx_81)), ((hF312.1 89 rfl).trans (fx_89)), (congrFun (hF312.2 51 rfl) _).trans (ex_fw1), by omega, by omega, by omega, by omega, by omega, (Cd_mk (fun hC => by have := Cd_ap p322 (by omega); omega)), by omega, (Cd_mk (fun hC => Cd_ap hBo334 (by omega))), by omega, by omega, by omega, sf331, (SA_su Vd_l sf332), (Cd_mk (fun hC => (gP_mk (by omega) (Cd_ap sf333 (by omega)) (.inr (.inr (.inr (.inr (.inr (.inl ⟨hkd, (Cd_ap p325 (by omega))⟩))))))))), trivial⟩
  · refine jx_swe (z := 26) (tg := 254) h46 rfl rfl rfl rfl ?_
    have hkd : T0 15 (p).toNat = 26 := (by omega); obtain ⟨l0, ch0, g5⟩ := wS_i26 w8 hkd; have hQ0 := LQ_0 (N := fun _ => True) ch0 g5 rfl trivial
    refine jx_ld (pc_q := 255) (l_q := L) (st_q := [.ref 66]) rfl (jl_aloadn gL_0) ?_
    refine jr_get (pc_q := 258) (i := 38) (v := .ref 88) rfl rfl (by decide) rfl rfl ?_
    refine jx_ld (pc_q := 259) (l_q := L) (st_q := [.int (i32 (p)), .ref 88]) rfl (jl_iloadn gL_1) ?_
    have b335 : (-2147483648 : Int) ≤ T0 21 (p).toNat ∧ T0 21 (p).toNat ≤ 2147483647 := hWT.2 21 _
    refine jr_ldv (pc_q := 260) (i := 21) (m := 7000) (z := p) (y := T0 21 (p).toNat) rfl (by decide) rfl (by decide) (by omega) (by omega) rfl (show Ax 21 (p).toNat = T0 21 (p).toNat from (congrFun ((hFx.2 21 rfl).trans (p_0 21 rfl)) _)) ?_
    refine jx_ld (pc_q := 261) (l_q := jSto1 L 2 (.int (i32 (T0 21 (p).toNat)))) (st_q := []) rfl rfl ?_
    obtain ⟨L336, eL336⟩ : ∃ q, q = jSto1 L 2 (.int (i32 (T0 21 (p).toNat))) := ⟨_, rfl⟩
    rw [← eL336]
    have gL336_0 : jGet L336 0 = some (.ref 66) := eL336 ▸ jg_ne (by decide) gL_0 rfl
    have gL336_1 : jGet L336 1 = some (.int (i32 (p))) := eL336 ▸ jg_ne (by decide) gL_1 rfl
    have gL336_2 : jGet L336 2 = some (.int (i32 (T0 21 (p).toNat))) := eL336 ▸ jg_eq
    exact c_gen_s_at_261 (X := X) (k := k) (hN := hN) (d := d) (T0 := T0) (Q := Q) (F := F) (Sn := Sn) (Vs := Vs) (sb := sb) (pb := pb) (c0 := c0) (c1 := c1) (G := G) (A := A) (T := T) (p := p) (lo := lo) (hi := hi) (s0 := s0) (s1 := s1) (fr := fr) (z := z) (D := D) (bd := bd) (st := st) (lg := lg) (lb := lb) (nw := nw) (al := al) (fw := fw) (hd := hd) (hW := hW) (e_st := e_st) (e_lg := e_lg) (e_lb := e_lb) (e_nw := e_nw) (e_al := e_al) (e_fw := e_fw) (h_p := h_p) (p_0 := p_0) (p_1 := p_1) (p_2 := p_2) (p_3 := p_3) (p_4 := p_4) (p_5 := p_5) (p_6 := p_6) (p_7 := p_7) (p_8 := p_8) (p_9 := p_9) (p_10 := p_10) (p_11 := p_11) (p_12 := p_12) (p_13 := p_13) (p_14 := p_14) (p_15 := p_15) (p_16 := p_16) (p_17 := p_17) (p_18 := p_18) (p_19 := p_19) (p_20 := p_20) (p_21 := p_21) (p_22 := p_22) (p_23 := p_23) (p_24 := p_24) (p_25 := p_25) (p_26 := p_26) (p_27 := p_27) (p_28 := p_28) (p_29 := p_29) _ L336 Gx Ax (T0 21 (p).toNat) (st1) (lg1) (lb) (fw1) (p + 1) ((s0 + T0 24 (p).toNat)) (st1) (0) rfl gL336_0 gL336_1 gL336_2 hWx hFx hCx hAlx hBpx (Cd_mk (fun hC => Cd_ap hBox (by omega))) ((ex_st1)) ((ex_lg1)) ((fx_77)) ((ex_fw1)) ((fx_81)) ((fx_89)) (by omega) (by omega) (by omega) (by omega) (by omega) (by omega) ((Cd_mk (fun hC => by omega))) (by omega) ((show (0 : Int) = 200000 * (_ - _) by omega)) (by omega) (iv_5) (iv_6) (by omega) (by omega) (by omega) (by omega) (by omega) (by omega) (hQ0) ((Cd_mk (fun hC => (Cd_ap iv_7 (by omega))))) ((Cd_mk (fun hC => (gQ_0 ⟨_, ch0⟩ (by omega) (by omega) (by omega)))))
  · refine jx_swe (z := 27) (tg := 283) h46 rfl rfl rfl rfl ?_
    have hkd : T0 15 (p).toNat = 27 := (by omega); obtain ⟨g1, g2, g3, a7, b7, g4, g5, g6, g7, g8, g9⟩ := wS_i27 w8 hkd; have hy := y3.2.2.2.2.1 hkd; have hy1 := hy.1; have hy2 := hy.2.1; have hy3 := hy.2.2.1; have h79 : T0 7 (T0 17 (p).toNat).toNat = 9 := (by rw [g1]; exact g3); have hw27 : wP T0 sb pb k (Vu (Vd Vs s0 (s0 + T0 24 (p).toNat)) (T0 17 (p).toNat)) (T0 21 (p).toNat) b7 hi (T0 17 (p).toNat + 1) s1 := (by rw [g1]; exact g9); obtain ⟨b1, hb1⟩ : ∃ b, WB (p) hi b := WB_ex _ _; have hbb := WB_le p_20 hb1 (by omega) (by omega) (by omega)
    refine jx_ld (pc_q := 284) (l_q := L) (st_q := [.ref 66]) rfl (jl_aloadn gL_0) ?_
    refine jx_ld (pc_q := 285) (l_q := L) (st_q := [.int (i32 (p)), .ref 66]) rfl (jl_iloadn gL_1) ?_
    refine jx_vr (pc_q := 288) (as := [.int (i32 (p))]) (st := []) rfl rfl rfl rfl ⟨rfl, rfl, Nat.le_of_ble_eq_true rfl⟩ rfl rfl (c_genFor (dd := d) (hN := hN) (hd := by omega) (hW := hWx) (n := p) (a7 := a7) (b7 := b7) (hi := hi) (s0 := T0 17 (p).toNat + 1) (s1 := s1) (fr := fr + zS T0 (T0 23 (p).toNat) (T0 24 (p).toNat).toNat + 2) (z := z) (D := D) (bd := b1) (st := st1) (e_st := show Gx 70 = st1 from (ex_st1)) (lg := lg1) (e_lg := show Gx 79 = lg1 from (ex_lg1)) (lb := lb) (e_lb := show Gx 77 = lb from (fx_77)) (nw := nw) (e_nw := show Gx 81 = nw from (fx_81)) (al := al) (e_al := show Gx 89 = al from (fx_89)) (fw := fw1) (e_fw := show Ax 51 (nw).toNat = fw1 from (ex_fw1))  (h_n := ⟨(Int.le_trans (by decide : (-2147483648 : Int) ≤ -2147483648) h_p.1), (Int.le_trans h_p.2 (by decide : (2147483647 : Int) ≤ 2147483647))⟩)  (p_0 := (TA_fr hFx (by decide) p_0)) (p_1 := iv_5) (p_2 := iv_6) (p_3 := hVW1) (p_4 := by omega) (p_5 := by omega) (p_6 := by omega) (p_7 := by omega) (p_8 := by omega) (p_9 := by omega) (p_10 := by omega) (p_11 := by omega) (p_12 := by omega) (p_13 := by omega) (p_14 := by omega) (p_15 := by omega) (p_16 := by omega) (p_17 := by omega) (p_18 := by omega) (p_19 := by omega) (p_20 := by omega) (p_21 := by omega) (p_22 := by omega) (p_23 := g7) (p_24 := g8) (p_25 := hw27) (p_26 := (VB_mo hVB1 (by omega))) (p_27 := hy.2.2.2.2.2) (p_28 := by omega) (p_29 := by omega) (p_30 := by omega) (p_31 := by omega) (p_32 := hb1) (p_33 := by omega) (p_34 := by omega) (p_35 := by omega) (p_36 := by omega) (p_37 := by omega) (p_38 := by omega) (p_39 := by omega) (p_40 := p_28) (p_41 := (PA_fr (hFx.2 52 rfl) p_29))) (fun o V_q hq => ?_)
    obtain ⟨G337, A338, st2_339, lg2_340, lb2_341, nw2_342, al2_343, fw2_344, rfl, rfl, hW345, hF346, hQ347, hQ348, hQ349, e350, e351, e352, e353, e354, e355, p356, p357, p358, p359, p360, p361, p362, p363, p364, p365, p366, p367, p368, p369, -⟩ := hq
    have hF371 := Fr_tr hFx hF346 (Fr_sub (by decide)) (Fr_sub (by decide))
    have hC372 := Fx_tr hCx hQ347 (by omega)
    have hAl373 := Fx_tr hAlx hQ348 (by omega)
    have hBp374 := Fx_tr hBpx hQ349 (by omega)
    have bst2_339 : (-2147483648 : Int) ≤ st2_339 ∧ st2_339 ≤ 2147483647 := e350 ▸ hW345.1 70
    have blg2_340 : (0 : Int) ≤ lg2_340 ∧ lg2_340 ≤ 1 := e351 ▸ hW345.1 79
    have blb2_341 : (-2147483648 : Int) ≤ lb2_341 ∧ lb2_341 ≤ 2147483647 := e352 ▸ hW345.1 77
    have bnw2_342 : (-2147483648 : Int) ≤ nw2_342 ∧ nw2_342 ≤ 2147483647 := e353 ▸ hW345.1 81
    have bal2_343 : (-2147483648 : Int) ≤ al2_343 ∧ al2_343 ≤ 2147483647 := e354 ▸ hW345.1 89
    have bfw2_344 : (-2147483648 : Int) ≤ fw2_344 ∧ fw2_344 ≤ 2147483647 := e355 ▸ hW345.2 51 _
    refine .inl ⟨rfl, ?_⟩
    have sf375 : Cd (lg2_340 = 0 ∧ lb2_341 < 19999) (gN T0 A338 F (nw) (T0 23 (p).toNat) ((T0 24 (p).toNat).toNat) (st) (st1)) := Cd_mk (fun hC => gN_mv (Cg_fx (l0 := 0) (l1 := 0) hQ347 (Cd_ap p363 (by omega)) (by omega)) (by omega) (Cd_ap iv_7 (by omega)))
    have hBo376 : Cd (lg2_340 = 0 ∧ lb2_341 < 19999) (Fx [50] (lb + 1) A A338) := Cd_mk (fun hC => Fx_tr (Cd_ap hBox (by omega)) (Cd_ap p363 (by omega)) (by omega))
    refine jx_go (tg := 373) rfl rfl ?_
    refine jx_rt (v := none) rfl rfl rfl rfl rfl rfl ?_
    exact ⟨_, _, st2_339, lg2_340, lb2_341, nw2_342, al2_343, fw2_344, rfl, rfl, hW345, hF371, hC372, hAl373, hBp374, (e350), (e351), (e352), (e353), (e354), (e355), by omega, by omega, by omega, by omega, by omega, (Cd_mk (fun hC => by have := Cd_ap p361 (by omega); omega)), by omega, (Cd_mk (fun hC => Cd_ap hBo376 (by omega))), by omega, by omega, by omega, p367, (SA_su Vd_l p368), (Cd_mk (fun hC => (gP_mk (by omega) (Cd_ap sf375 (by omega)) (.inr (.inr (.inr (.inr (.inr (.inr (.inr (.inl ⟨hkd, (Cd_ap p369 (by omega))⟩))))))))))), trivial⟩
  · refine jx_swe (z := 28) (tg := 291) h46 rfl rfl rfl rfl ?_
    rcases (by omega : T0 15 (p).toNat = 28 ∨ T0 15 (p).toNat = 29) with hkd | hkd
    · have _q : True := trivial
      have hK := KD_28 hkd w8 y3 (by omega); have hy := y3.2.2.2.2.2.1 hkd; have hy1 := hy.1; have hy2 := hy.2.1; obtain ⟨b1, hb1⟩ : ∃ b, WB (p) hi b := WB_ex _ _; have hbb := WB_le p_20 hb1 (by omega) (by omega) (by omega)
      refine jx_ld (pc_q := 292) (l_q := L) (st_q := [.ref 66]) rfl (jl_aloadn gL_0) ?_
      refine jx_ld (pc_q := 293) (l_q := L) (st_q := [.int (i32 (p)), .ref 66]) rfl (jl_iloadn gL_1) ?_
      refine jx_vr (pc_q := 296) (as := [.int (i32 (p))]) (st := []) rfl rfl rfl rfl ⟨rfl, rfl, Nat.le_of_ble_eq_true rfl⟩ rfl rfl (c_genPar (dd := d) (hN := hN) (hd := by omega) (hW := hWx) (n := p) (hi := hi) (s0 := s0 + T0 24 (p).toNat) (s1 := s1) (D := D) (bd := b1) (st := st1) (e_st := show Gx 70 = st1 from (ex_st1)) (lg := lg1) (e_lg := show Gx 79 = lg1 from (ex_lg1)) (lb := lb) (e_lb := show Gx 77 = lb from (fx_77)) (nw := nw) (e_nw := show Gx 81 = nw from (fx_81)) (al := al) (e_al := show Gx 89 = al from (fx_89)) (fw := fw1) (e_fw := show Ax 51 (nw).toNat = fw1 from (ex_fw1))  (h_n := ⟨(Int.le_trans (by decide : (-2147483648 : Int) ≤ -2147483648) h_p.1), (Int.le_trans h_p.2 (by decide : (2147483647 : Int) ≤ 2147483647))⟩)  (p_0 := (TA_fr hFx (by decide) p_0)) (p_1 := iv_5) (p_2 := iv_6) (p_3 := hVW1) (p_4 := by omega) (p_5 := by omega) (p_6 := by omega) (p_7 := by omega) (p_8 := by omega) (p_9 := by omega) (p_10 := by omega) (p_11 := by omega) (p_12 := by omega) (p_13 := by omega) (p_14 := by omega) (p_15 := by omega) (p_16 := by omega) (p_17 := by omega) (p_18 := hK) (p_19 := (VB_mo hVB1 (by omega))) (p_20 := by omega) (p_21 := by omega) (p_22 := by omega) (p_23 := hb1) (p_24 := by omega) (p_25 := by omega) (p_26 := by omega) (p_27 := by omega) (p_28 := by omega) (p_29 := p_28) (p_30 := (PA_fr (hFx.2 52 rfl) p_29))) (fun o V_q hq => ?_)
      obtain ⟨G377, A378, st2_379, lg2_380, lb2_381, nw2_382, al2_383, fw2_384, rfl, rfl, hW385, hF386, hQ387, hQ388, hQ389, e390, e391, e392, e393, e394, e395, p396, p397, p398, p399, p400, p401, p402, p403, p404, p405, p406, p407, p408, p409, -⟩ := hq
      have hF411 := Fr_tr hFx hF386 (Fr_sub (by decide)) (Fr_sub (by decide))
      have hC412 := Fx_tr hCx hQ387 (by omega)
      have hAl413 := Fx_tr hAlx hQ388 (by omega)
      have hBp414 := Fx_tr hBpx hQ389 (by omega)
      have bst2_379 : (-2147483648 : Int) ≤ st2_379 ∧ st2_379 ≤ 2147483647 := e390 ▸ hW385.1 70
      have blg2_380 : (0 : Int) ≤ lg2_380 ∧ lg2_380 ≤ 1 := e391 ▸ hW385.1 79
      have blb2_381 : (-2147483648 : Int) ≤ lb2_381 ∧ lb2_381 ≤ 2147483647 := e392 ▸ hW385.1 77
      have bnw2_382 : (-2147483648 : Int) ≤ nw2_382 ∧ nw2_382 ≤ 2147483647 := e393 ▸ hW385.1 81
      have bal2_383 : (-2147483648 : Int) ≤ al2_383 ∧ al2_383 ≤ 2147483647 := e394 ▸ hW385.1 89
      have bfw2_384 : (-2147483648 : Int) ≤ fw2_384 ∧ fw2_384 ≤ 2147483647 := e395 ▸ hW385.2 51 _
      refine .inl ⟨rfl, ?_⟩
      have sf415 : Cd (lg2_380 = 0 ∧ lb2_381 < 19999) (gN T0 A378 F (nw) (T0 23 (p).toNat) ((T0 24 (p).toNat).toNat) (st) (st1)) := Cd_mk (fun hC => gN_mv (Cg_fx (l0 := 0) (l1 := 0) hQ387 (Cd_ap p403 (by omega)) (by omega)) (by omega) (Cd_ap iv_7 (by omega)))
      have hBo416 : Cd (lg2_380 = 0 ∧ lb2_381 < 19999) (Fx [50] (lb + 1) A A378) := Cd_mk (fun hC => Fx_tr (Cd_ap hBox (by omega)) (Cd_ap p403 (by omega)) (by omega))
      refine jx_go (tg := 373) rfl rfl ?_
      refine jx_rt (v := none) rfl rfl rfl rfl rfl rfl ?_
      exact ⟨_, _, st2_379, lg2_380, lb2_381, nw2_382, al2_383, fw2_384, rfl, rfl, hW385, hF411, hC412, hAl413, hBp414, (e390), (e391), (e392), (e393), (e394), (e395), by omega, by omega, by omega, by omega, by omega, (Cd_mk (fun hC => by have := Cd_ap p401 (by omega); omega)), by omega, (Cd_mk (fun hC => Cd_ap hBo416 (by omega))), by omega, by omega, by omega, p407, (SA_su Vd_l p408), (Cd_mk (fun hC => (gP_mk (by omega) (Cd_ap sf415 (by omega)) (.inr (.inr (.inr (.inr (.inr (.inr (.inr (.inr (.inl ⟨.inl hkd, (Cd_ap p409 (by omega))⟩)))))))))))), trivial⟩
    · have _q : True := trivial
      have hK := KD_29 hkd (by omega) (by omega) w8 y3 (by omega); have hy := y3.2.2.2.2.2.2.1 hkd; have hy1 := hy.1; have hy2 := hy.2.1; obtain ⟨b1, hb1⟩ : ∃ b, WB (p) hi b := WB_ex _ _; have hbb := WB_le p_20 hb1 (by omega) (by omega) (by omega)
      refine jx_ld (pc_q := 292) (l_q := L) (st_q := [.ref 66]) rfl (jl_aloadn gL_0) ?_
      refine jx_ld (pc_q := 293) (l_q := L) (st_q := [.int (i32 (p)), .ref 66]) rfl (jl_iloadn gL_1) ?_
      refine jx_vr (pc_q := 296) (as := [.int (i32 (p))]) (st := []) rfl rfl rfl rfl ⟨rfl, rfl, Nat.le_of_ble_eq_true rfl⟩ rfl rfl (c_genPar (dd := d) (hN := hN) (hd := by omega) (hW := hWx) (n := p) (hi := hi) (s0 := s0 + T0 24 (p).toNat) (s1 := s1) (D := D) (bd := b1) (st := st1) (e_st := show Gx 70 = st1 from (ex_st1)) (lg := lg1) (e_lg := show Gx 79 = lg1 from (ex_lg1)) (lb := lb) (e_lb := show Gx 77 = lb from (fx_77)) (nw := nw) (e_nw := show Gx 81 = nw from (fx_81)) (al := al) (e_al := show Gx 89 = al from (fx_89)) (fw := fw1) (e_fw := show Ax 51 (nw).toNat = fw1 from (ex_fw1))  (h_n := ⟨(Int.le_trans (by decide : (-2147483648 : Int) ≤ -2147483648) h_p.1), (Int.le_trans h_p.2 (by decide : (2147483647 : Int) ≤ 2147483647))⟩)  (p_0 := (TA_fr hFx (by decide) p_0)) (p_1 := iv_5) (p_2 := iv_6) (p_3 := hVW1) (p_4 := by omega) (p_5 := by omega) (p_6 := by omega) (p_7 := by omega) (p_8 := by omega) (p_9 := by omega) (p_10 := by omega) (p_11 := by omega) (p_12 := by omega) (p_13 := by omega) (p_14 := by omega) (p_15 := by omega) (p_16 := by omega) (p_17 := by omega) (p_18 := hK) (p_19 := (VB_mo hVB1 (by omega))) (p_20 := by omega) (p_21 := by omega) (p_22 := by omega) (p_23 := hb1) (p_24 := by omega) (p_25 := by omega) (p_26 := by omega) (p_27 := by omega) (p_28 := by omega) (p_29 := p_28) (p_30 := (PA_fr (hFx.2 52 rfl) p_29))) (fun o V_q hq => ?_)
      obtain ⟨G417, A418, st2_419, lg2_420, lb2_421, nw2_422, al2_423, fw2_424, rfl, rfl, hW425, hF426, hQ427, hQ428, hQ429, e430, e431, e432, e433, e434, e435, p436, p437, p438, p439, p440, p441, p442, p443, p444, p445, p446, p447, p448, p449, -⟩ := hq
      have hF451 := Fr_tr hFx hF426 (Fr_sub (by decide)) (Fr_sub (by decide))
      have hC452 := Fx_tr hCx hQ427 (by omega)
      have hAl453 := Fx_tr hAlx hQ428 (by omega)
      have hBp454 := Fx_tr hBpx hQ429 (by omega)
      have bst2_419 : (-2147483648 : Int) ≤ st2_419 ∧ st2_419 ≤ 2147483647 := e430 ▸ hW425.1 70
      have blg2_420 : (0 : Int) ≤ lg2_420 ∧ lg2_420 ≤ 1 := e431 ▸ hW425.1 79
      have blb2_421 : (-2147483648 : Int) ≤ lb2_421 ∧ lb2_421 ≤ 2147483647 := e432 ▸ hW425.1 77
      have bnw2_422 : (-2147483648 : Int) ≤ nw2_422 ∧ nw2_422 ≤ 2147483647 := e433 ▸ hW425.1 81
      have bal2_423 : (-2147483648 : Int) ≤ al2_423 ∧ al2_423 ≤ 2147483647 := e434 ▸ hW425.1 89
      have bfw2_424 : (-2147483648 : Int) ≤ fw2_424 ∧ fw2_424 ≤ 2147483647 := e435 ▸ hW425.2 51 _
      refine .inl ⟨rfl, ?_⟩
      have sf455 : Cd (lg2_420 = 0 ∧ lb2_421 < 19999) (gN T0 A418 F (nw) (T0 23 (p).toNat) ((T0 24 (p).toNat).toNat) (st) (st1)) := Cd_mk (fun hC => gN_mv (Cg_fx (l0 := 0) (l1 := 0) hQ427 (Cd_ap p443 (by omega)) (by omega)) (by omega) (Cd_ap iv_7 (by omega)))
      have hBo456 : Cd (lg2_420 = 0 ∧ lb2_421 < 19999) (Fx [50] (lb + 1) A A418) := Cd_mk (fun hC => Fx_tr (Cd_ap hBox (by omega)) (Cd_ap p443 (by omega)) (by omega))
      refine jx_go (tg := 373) rfl rfl ?_
      refine jx_rt (v := none) rfl rfl rfl rfl rfl rfl ?_
      exact ⟨_, _, st2_419, lg2_420, lb2_421, nw2_422, al2_423, fw2_424, rfl, rfl, hW425, hF451, hC452, hAl453, hBp454, (e430), (e431), (e432), (e433), (e434), (e435), by omega, by omega, by omega, by omega, by omega, (Cd_mk (fun hC => by have := Cd_ap p441 (by omega); omega)), by omega, (Cd_mk (fun hC => Cd_ap hBo456 (by omega))), by omega, by omega, by omega, p447, (SA_su Vd_l p448), (Cd_mk (fun hC => (gP_mk (by omega) (Cd_ap sf455 (by omega)) (.inr (.inr (.inr (.inr (.inr (.inr (.inr (.inr (.inl ⟨.inr hkd, (Cd_ap p449 (by omega))⟩)))))))))))), trivial⟩
  · refine jx_swe (z := 29) (tg := 291) h46 rfl rfl rfl rfl ?_
    rcases (by omega : T0 15 (p).toNat = 28 ∨ T0 15 (p).toNat = 29) with hkd | hkd
    · have _q : True := trivial
      have hK := KD_28 hkd w8 y3 (by omega); have hy := y3.2.2.2.2.2.1 hkd; have hy1 := hy.1; have hy2 := hy.2.1; obtain ⟨b1, hb1⟩ : ∃ b, WB (p) hi b := WB_ex _ _; have hbb := WB_le p_20 hb1 (by omega) (by omega) (by omega)
      refine jx_ld (pc_q := 292) (l_q := L) (st_q := [.ref 66]) rfl (jl_aloadn gL_0) ?_
      refine jx_ld (pc_q := 293) (l_q := L) (st_q := [.int (i32 (p)), .ref 66]) rfl (jl_iloadn gL_1) ?_
      refine jx_vr (pc_q := 296) (as := [.int (i32 (p))]) (st := []) rfl rfl rfl rfl ⟨rfl, rfl, Nat.le_of_ble_eq_true rfl⟩ rfl rfl (c_genPar (dd := d) (hN := hN) (hd := by omega) (hW := hWx) (n := p) (hi := hi) (s0 := s0 + T0 24 (p).toNat) (s1 := s1) (D := D) (bd := b1) (st := st1) (e_st := show Gx 70 = st1 from (ex_st1)) (lg := lg1) (e_lg := show Gx 79 = lg1 from (ex_lg1)) (lb := lb) (e_lb := show Gx 77 = lb from (fx_77)) (nw := nw) (e_nw := show Gx 81 = nw from (fx_81)) (al := al) (e_al := show Gx 89 = al from (fx_89)) (fw := fw1) (e_fw := show Ax 51 (nw).toNat = fw1 from (ex_fw1))  (h_n := ⟨(Int.le_trans (by decide : (-2147483648 : Int) ≤ -2147483648) h_p.1), (Int.le_trans h_p.2 (by decide : (2147483647 : Int) ≤ 2147483647))⟩)  (p_0 := (TA_fr hFx (by decide) p_0)) (p_1 := iv_5) (p_2 := iv_6) (p_3 := hVW1) (p_4 := by omega) (p_5 := by omega) (p_6 := by omega) (p_7 := by omega) (p_8 := by omega) (p_9 := by omega) (p_10 := by omega) (p_11 := by omega) (p_12 := by omega) (p_13 := by omega) (p_14 := by omega) (p_15 := by omega) (p_16 := by omega) (p_17 := by omega) (p_18 := hK) (p_19 := (VB_mo hVB1 (by omega))) (p_20 := by omega) (p_21 := by omega) (p_22 := by omega) (p_23 := hb1) (p_24 := by omega) (p_25 := by omega) (p_26 := by omega) (p_27 := by omega) (p_28 := by omega) (p_29 := p_28) (p_30 := (PA_fr (hFx.2 52 rfl) p_29))) (fun o V_q hq => ?_)
      obtain ⟨G457, A458, st2_459, lg2_460, lb2_461, nw2_462, al2_463, fw2_464, rfl, rfl, hW465, hF466, hQ467, hQ468, hQ469, e470, e471, e472, e473, e474, e475, p476, p477, p478, p479, p480, p481, p482, p483, p484, p485, p486, p487, p488, p489, -⟩ := hq
      have hF491 := Fr_tr hFx hF466 (Fr_sub (by decide)) (Fr_sub (by decide))
      have hC492 := Fx_tr hCx hQ467 (by omega)
      have hAl493 := Fx_tr hAlx hQ468 (by omega)
      have hBp494 := Fx_tr hBpx hQ469 (by omega)
      have bst2_459 : (-2147483648 : Int) ≤ st2_459 ∧ st2_459 ≤ 2147483647 := e470 ▸ hW465.1 70
      have blg2_460 : (0 : Int) ≤ lg2_460 ∧ lg2_460 ≤ 1 := e471 ▸ hW465.1 79
      have blb2_461 : (-2147483648 : Int) ≤ lb2_461 ∧ lb2_461 ≤ 2147483647 := e472 ▸ hW465.1 77
      have bnw2_462 : (-2147483648 : Int) ≤ nw2_462 ∧ nw2_462 ≤ 2147483647 := e473 ▸ hW465.1 81
      have bal2_463 : (-2147483648 : Int) ≤ al2_463 ∧ al2_463 ≤ 2147483647 := e474 ▸ hW465.1 89
      have bfw2_464 : (-2147483648 : Int) ≤ fw2_464 ∧ fw2_464 ≤ 2147483647 := e475 ▸ hW465.2 51 _
      refine .inl ⟨rfl, ?_⟩
      have sf495 : Cd (lg2_460 = 0 ∧ lb2_461 < 19999) (gN T0 A458 F (nw) (T0 23 (p).toNat) ((T0 24 (p).toNat).toNat) (st) (st1)) := Cd_mk (fun hC => gN_mv (Cg_fx (l0 := 0) (l1 := 0) hQ467 (Cd_ap p483 (by omega)) (by omega)) (by omega) (Cd_ap iv_7 (by omega)))
      have hBo496 : Cd (lg2_460 = 0 ∧ lb2_461 < 19999) (Fx [50] (lb + 1) A A458) := Cd_mk (fun hC => Fx_tr (Cd_ap hBox (by omega)) (Cd_ap p483 (by omega)) (by omega))
      refine jx_go (tg := 373) rfl rfl ?_
      refine jx_rt (v := none) rfl rfl rfl rfl rfl rfl ?_
      exact ⟨_, _, st2_459, lg2_460, lb2_461, nw2_462, al2_463, fw2_464, rfl, rfl, hW465, hF491, hC492, hAl493, hBp494, (e470), (e471), (e472), (e473), (e474), (e475), by omega, by omega, by omega, by omega, by omega, (Cd_mk (fun hC => by have := Cd_ap p481 (by omega); omega)), by omega, (Cd_mk (fun hC => Cd_ap hBo496 (by omega))), by omega, by omega, by omega, p487, (SA_su Vd_l p488), (Cd_mk (fun hC => (gP_mk (by omega) (Cd_ap sf495 (by omega)) (.inr (.inr (.inr (.inr (.inr (.inr (.inr (.inr (.inl ⟨.inl hkd, (Cd_ap p489 (by omega))⟩)))))))))))), trivial⟩
    · have _q : True := trivial
      have hK := KD_29 hkd (by omega) (by omega) w8 y3 (by omega); have hy := y3.2.2.2.2.2.2.1 hkd; have hy1 := hy.1; have hy2 := hy.2.1; obtain ⟨b1, hb1⟩ : ∃ b, WB (p) hi b := WB_ex _ _; have hbb := WB_le p_20 hb1 (by omega) (by omega) (by omega)
      refine jx_ld (pc_q := 292) (l_q := L) (st_q := [.ref 66]) rfl (jl_aloadn gL_0) ?_
      refine jx_ld (pc_q := 293) (l_q := L) (st_q := [.int (i32 (p)), .ref 66]) rfl (jl_iloadn gL_1) ?_
      refine jx_vr (pc_q := 296) (as := [.int (i32 (p))]) (st := []) rfl rfl rfl rfl ⟨rfl, rfl, Nat.le_of_ble_eq_true rfl⟩ rfl rfl (c_genPar (dd := d) (hN := hN) (hd := by omega) (hW := hWx) (n := p) (hi := hi) (s0 := s0 + T0 24 (p).toNat) (s1 := s1) (D := D) (bd := b1) (st := st1) (e_st := show Gx 70 = st1 from (ex_st1)) (lg := lg1) (e_lg := show Gx 79 = lg1 from (ex_lg1)) (lb := lb) (e_lb := show Gx 77 = lb from (fx_77)) (nw := nw) (e_nw := show Gx 81 = nw from (fx_81)) (al := al) (e_al := show Gx 89 = al from (fx_89)) (fw := fw1) (e_fw := show Ax 51 (nw).toNat = fw1 from (ex_fw1))  (h_n := ⟨(Int.le_trans (by decide : (-2147483648 : Int) ≤ -2147483648) h_p.1), (Int.le_trans h_p.2 (by decide : (2147483647 : Int) ≤ 2147483647))⟩)  (p_0 := (TA_fr hFx (by decide) p_0)) (p_1 := iv_5) (p_2 := iv_6) (p_3 := hVW1) (p_4 := by omega) (p_5 := by omega) (p_6 := by omega) (p_7 := by omega) (p_8 := by omega) (p_9 := by omega) (p_10 := by omega) (p_11 := by omega) (p_12 := by omega) (p_13 := by omega) (p_14 := by omega) (p_15 := by omega) (p_16 := by omega) (p_17 := by omega) (p_18 := hK) (p_19 := (VB_mo hVB1 (by omega))) (p_20 := by omega) (p_21 := by omega) (p_22 := by omega) (p_23 := hb1) (p_24 := by omega) (p_25 := by omega) (p_26 := by omega) (p_27 := by omega) (p_28 := by omega) (p_29 := p_28) (p_30 := (PA_fr (hFx.2 52 rfl) p_29))) (fun o V_q hq => ?_)
      obtain ⟨G497, A498, st2_499, lg2_500, lb2_501, nw2_502, al2_503, fw2_504, rfl, rfl, hW505, hF506, hQ507, hQ508, hQ509, e510, e511, e512, e513, e514, e515, p516, p517, p518, p519, p520, p521, p522, p523, p524, p525, p526, p527, p528, p529, -⟩ := hq
      have hF531 := Fr_tr hFx hF506 (Fr_sub (by decide)) (Fr_sub (by decide))
      have hC532 := Fx_tr hCx hQ507 (by omega)
      have hAl533 := Fx_tr hAlx hQ508 (by omega)
      have hBp534 := Fx_tr hBpx hQ509 (by omega)
      have bst2_499 : (-2147483648 : Int) ≤ st2_499 ∧ st2_499 ≤ 2147483647 := e510 ▸ hW505.1 70
      have blg2_500 : (0 : Int) ≤ lg2_500 ∧ lg2_500 ≤ 1 := e511 ▸ hW505.1 79
      have blb2_501 : (-2147483648 : Int) ≤ lb2_501 ∧ lb2_501 ≤ 2147483647 := e512 ▸ hW505.1 77
      have bnw2_502 : (-2147483648 : Int) ≤ nw2_502 ∧ nw2_502 ≤ 2147483647 := e513 ▸ hW505.1 81
      have bal2_503 : (-2147483648 : Int) ≤ al2_503 ∧ al2_503 ≤ 2147483647 := e514 ▸ hW505.1 89
      have bfw2_504 : (-2147483648 : Int) ≤ fw2_504 ∧ fw2_504 ≤ 2147483647 := e515 ▸ hW505.2 51 _
      refine .inl ⟨rfl, ?_⟩
      have sf535 : Cd (lg2_500 = 0 ∧ lb2_501 < 19999) (gN T0 A498 F (nw) (T0 23 (p).toNat) ((T0 24 (p).toNat).toNat) (st) (st1)) := Cd_mk (fun hC => gN_mv (Cg_fx (l0 := 0) (l1 := 0) hQ507 (Cd_ap p523 (by omega)) (by omega)) (by omega) (Cd_ap iv_7 (by omega)))
      have hBo536 : Cd (lg2_500 = 0 ∧ lb2_501 < 19999) (Fx [50] (lb + 1) A A498) := Cd_mk (fun hC => Fx_tr (Cd_ap hBox (by omega)) (Cd_ap p523 (by omega)) (by omega))
      refine jx_go (tg := 373) rfl rfl ?_
      refine jx_rt (v := none) rfl rfl rfl rfl rfl rfl ?_
      exact ⟨_, _, st2_499, lg2_500, lb2_501, nw2_502, al2_503, fw2_504, rfl, rfl, hW505, hF531, hC532, hAl533, hBp534, (e510), (e511), (e512), (e513), (e514), (e515), by omega, by omega, by omega, by omega, by omega, (Cd_mk (fun hC => by have := Cd_ap p521 (by omega); omega)), by omega, (Cd_mk (fun hC => Cd_ap hBo536 (by omega))), by omega, by omega, by omega, p527, (SA_su Vd_l p528), (Cd_mk (fun hC => (gP_mk (by omega) (Cd_ap sf535 (by omega)) (.inr (.inr (.inr (.inr (.inr (.inr (.inr (.inr (.inl ⟨.inr hkd, (Cd_ap p529 (by omega))⟩)))))))))))), trivial⟩
  · refine jx_swe (z := 30) (tg := 299) h46 rfl rfl rfl rfl ?_
    have hkd : T0 15 (p).toNat = 30 := (by omega); obtain ⟨l0, _, ch0, g5⟩ := wS_i30 w8 hkd; have hQ0 := LQ_0 (N := fun _ => True) ch0 g5 rfl trivial; have hy := y3.2.2.2.2.2.2.2.1 hkd; obtain ⟨b1, hb1⟩ : ∃ b, WB (p) hi b := WB_ex _ _; have hbb := WB_le p_20 hb1 (by omega) (by omega) (by omega)
    refine jx_ld (pc_q := 300) (l_q := L) (st_q := [.ref 66]) rfl (jl_aloadn gL_0) ?_
    refine jx_ld (pc_q := 301) (l_q := L) (st_q := [.int (i32 (p)), .ref 66]) rfl (jl_iloadn gL_1) ?_
    refine jx_vr (pc_q := 304) (as := [.int (i32 (p))]) (st := []) rfl rfl rfl rfl ⟨rfl, rfl, Nat.le_of_ble_eq_true rfl⟩ rfl rfl (c_genIf (dd := d) (hN := hN) (hd := by omega) (hW := hWx) (n := p) (hi := hi) (s0 := s0 + T0 24 (p).toNat) (s1 := s1) (fr := fr + zS T0 (T0 23 (p).toNat) (T0 24 (p).toNat).toNat) (z := z) (D := D) (bd := b1) (st := st1) (e_st := show Gx 70 = st1 from (ex_st1)) (lg := lg1) (e_lg := show Gx 79 = lg1 from (ex_lg1)) (lb := lb) (e_lb := show Gx 77 = lb from (fx_77)) (nw := nw) (e_nw := show Gx 81 = nw from (fx_81)) (al := al) (e_al := show Gx 89 = al from (fx_89)) (fw := fw1) (e_fw := show Ax 51 (nw).toNat = fw1 from (ex_fw1))  (h_n := ⟨(Int.le_trans (by decide : (-2147483648 : Int) ≤ -2147483648) h_p.1), (Int.le_trans h_p.2 (by decide : (2147483647 : Int) ≤ 2147483647))⟩)  (p_0 := (TA_fr hFx (by decide) p_0)) (p_1 := iv_5) (p_2 := iv_6) (p_3 := hVW1) (p_4 := by omega) (p_5 := by omega) (p_6 := by omega) (p_7 := by omega) (p_8 := by omega) (p_9 := by omega) (p_10 := by omega) (p_11 := by omega) (p_12 := by omega) (p_13 := by omega) (p_14 := by omega) (p_15 := by omega) (p_16 := by omega) (p_17 := by omega) (p_18 := by omega) (p_19 := hQ0) (p_20 := (VB_mo hVB1 (by omega))) (p_21 := hy) (p_22 := hb1) (p_23 := by omega) (p_24 := by omega) (p_25 := by omega) (p_26 := by omega) (p_27 := by omega) (p_28 := by omega) (p_29 := by omega) (p_30 := p_28) (p_31 := (PA_fr (hFx.2 52 rfl) p_29))) (fun o V_q hq => ?_)
    obtain ⟨G537, A538, st2_539, lg2_540, lb2_541, nw2_542, al2_543, fw2_544, rfl, rfl, hW545, hF546, hQ547, hQ548, hQ549, e550, e551, e552, e553, e554, e555, p556, p557, p558, p559, p560, p561, p562, p563, p564, p565, p566, p567, p568, p569, -⟩ := hq
    have hF571 := Fr_tr hFx hF546 (Fr_sub (by decide)) (Fr_sub (by decide))
    have hC572 := Fx_tr hCx hQ547 (by omega)
    have hAl573 := Fx_tr hAlx hQ548 (by omega)
    have hBp574 := Fx_tr hBpx hQ549 (by omega)
    have bst2_539 : (-2147483648 : Int) ≤ st2_539 ∧ st2_539 ≤ 2147483647 := e550 ▸ hW545.1 70
    have blg2_540 : (0 : Int) ≤ lg2_540 ∧ lg2_540 ≤ 1 := e551 ▸ hW545.1 79
    have blb2_541 : (-2147483648 : Int) ≤ lb2_541 ∧ lb2_541 ≤ 2147483647 := e552 ▸ hW545.1 77
    have bnw2_542 : (-2147483648 : Int) ≤ nw2_542 ∧ nw2_542 ≤ 2147483647 := e553 ▸ hW545.1 81
    have bal2_543 : (-2147483648 : Int) ≤ al2_543 ∧ al2_543 ≤ 2147483647 := e554 ▸ hW545.1 89
    have bfw2_544 : (-2147483648 : Int) ≤ fw2_544 ∧ fw2_544 ≤ 2147483647 := e555 ▸ hW545.2 51 _
    refine .inl ⟨rfl, ?_⟩
    have sf575 : Cd (lg2_540 = 0 ∧ lb2_541 < 19999) (gN T0 A538 F (nw) (T0 23 (p).toNat) ((T0 24 (p).toNat).toNat) (st) (st1)) := Cd_mk (fun hC => gN_mv (Cg_fx (l0 := 0) (l1 := 0) hQ547 (Cd_ap p563 (by omega)) (by omega)) (by omega) (Cd_ap iv_7 (by omega)))
    have hBo576 : Cd (lg2_540 = 0 ∧ lb2_541 < 19999) (Fx [50] (lb + 1) A A538) := Cd_mk (fun hC => Fx_tr (Cd_ap hBox (by omega)) (Cd_ap p563 (by omega)) (by omega))
    refine jx_go (tg := 373) rfl rfl ?_
    refine jx_rt (v := none) rfl rfl rfl rfl rfl rfl ?_
    exact ⟨_, _, st2_539, lg2_540, lb2_541, nw2_542, al2_543, fw2_544, rfl, rfl, hW545, hF571, hC572, hAl573, hBp574, (e550), (e551), (e552), (e553), (e554), (e555), by omega, by omega, by omega, by omega, by omega, (Cd_mk (fun hC => by have := Cd_ap p561 (by omega); omega)), by omega, (Cd_mk (fun hC => Cd_ap hBo576 (by omega))), by omega, by omega, by omega, p567, (SA_su Vd_l p568), (Cd_mk (fun hC => (gP_mk (by omega) (Cd_ap sf575 (by omega)) (.inr (.inr (.inr (.inr (.inr (.inr (.inr (.inr (.inr (.inl ⟨hkd, (Cd_ap p569 (by omega))⟩))))))))))))), trivial⟩
  · refine jx_swe (z := 31) (tg := 307) h46 rfl rfl rfl rfl ?_
    have hkd : T0 15 (p).toNat = 31 := (by omega); obtain ⟨a7, g1, g2, g3, g4⟩ := wS_i31 w8 hkd; have hy := y3.2.2.2.2.2.2.2.2.1 hkd; obtain ⟨b1, hb1⟩ : ∃ b, WB (a7) hi b := WB_ex _ _; have hbb := WB_in p_20 hb1 (by omega) (by omega) (by omega)
    refine jx_ld (pc_q := 308) (l_q := L) (st_q := [.ref 66]) rfl (jl_aloadn gL_0) ?_
    refine jx_vr (pc_q := 311) (as := []) (st := []) rfl rfl rfl rfl ⟨rfl, rfl, Nat.le_of_ble_eq_true rfl⟩ rfl rfl (c_label (dd := d) (hd := by omega) (hW := hWx)  (lb := lb) (e_lb := show Gx 77 = lb from (fx_77))    (p_0 := by omega) (p_1 := by omega)) (fun o V_q hq => ?_)
    obtain ⟨G577, A578, r579, lb2_580, rfl, rfl, hW581, hF582, b583, e584, p585, p586, p587, p588, -⟩ := hq
    have hF590 := Fr_tr hFx hF582 (Fr_sub (by decide)) (Fr_sub (by decide))
    have hC591 := Fx_f hCx hF582 (by decide)
    have hAl592 := Fx_f hAlx hF582 (by decide)
    have hBp593 := Fx_f hBpx hF582 (by decide)
    have sf594 := FA_fr (hF582.2 51 rfl) iv_5
    have sf595 := SA_fr (hF582.2 13 rfl) iv_6
    have blb2_580 : (-2147483648 : Int) ≤ lb2_580 ∧ lb2_580 ≤ 2147483647 := e584 ▸ hW581.1 77
    refine .inr ⟨_, rfl, ?_⟩
    have sf596 : Cd (lg1 = 0 ∧ lb2_580 < 19999) (gN T0 A578 F (nw) (T0 23 (p).toNat) ((T0 24 (p).toNat).toNat) (st) (st1)) := Cd_mk (fun hC => gN_mv (Cg_fx (l0 := 0) (l1 := 0) (Fx_f (w := st1) Fx_rf hF582 (by decide)) (Fx_f (w := 0 + 1) Fx_rf hF582 (by decide)) (by omega)) (by omega) (Cd_ap iv_7 (by omega)))
    have hBo597 : Cd (lg1 = 0 ∧ lb2_580 < 19999) (Fx [50] (lb + 1) A A578) := Cd_mk (fun hC => Fx_f (Cd_ap hBox (by omega)) hF582 (by decide))
    refine jx_ld (pc_q := 312) (l_q := jSto1 L 2 (.int (i32 (r579)))) (st_q := []) rfl rfl ?_
    obtain ⟨L598, eL598⟩ : ∃ q, q = jSto1 L 2 (.int (i32 (r579))) := ⟨_, rfl⟩
    rw [← eL598]
    have gL598_0 : jGet L598 0 = some (.ref 66) := eL598 ▸ jg_ne (by decide) gL_0 rfl
    have gL598_1 : jGet L598 1 = some (.int (i32 (p))) := eL598 ▸ jg_ne (by decide) gL_1 rfl
    have gL598_2 : jGet L598 2 = some (.int (i32 (r579))) := eL598 ▸ jg_eq
    have _q : True := trivial
    refine jx_ld (pc_q := 313) (l_q := L598) (st_q := [.ref 66]) rfl (jl_aloadn gL598_0) ?_
    refine jx_vr (pc_q := 316) (as := []) (st := []) rfl rfl rfl rfl ⟨rfl, rfl, Nat.le_of_ble_eq_true rfl⟩ rfl rfl (c_label (dd := d) (hd := by omega) (hW := hW581)  (lb := lb2_580) (e_lb := show G577 77 = lb2_580 from (e584))    (p_0 := by omega) (p_1 := by omega)) (fun o V_q hq => ?_)
    obtain ⟨G599, A600, r601, lb2_602, rfl, rfl, hW603, hF604, b605, e606, p607, p608, p609, p610, -⟩ := hq
    have hF612 := Fr_tr hF590 hF604 (Fr_sub (by decide)) (Fr_sub (by decide))
    have hC613 := Fx_f hC591 hF604 (by decide)
    have hAl614 := Fx_f hAl592 hF604 (by decide)
    have hBp615 := Fx_f hBp593 hF604 (by decide)
    have sf616 := FA_fr (hF604.2 51 rfl) sf594
    have sf617 := SA_fr (hF604.2 13 rfl) sf595
    have blb2_602 : (-2147483648 : Int) ≤ lb2_602 ∧ lb2_602 ≤ 2147483647 := e606 ▸ hW603.1 77
    refine .inr ⟨_, rfl, ?_⟩
    have sf618 : Cd (lg1 = 0 ∧ lb2_602 < 19999) (gN T0 A600 F (nw) (T0 23 (p).toNat) ((T0 24 (p).toNat).toNat) (st) (st1)) := Cd_mk (fun hC => gN_mv (Cg_fx (l0 := 0) (l1 := 0) (Fx_f (w := st1) Fx_rf hF604 (by decide)) (Fx_f (w := 0 + 1) Fx_rf hF604 (by decide)) (by omega)) (by omega) (Cd_ap sf596 (by omega)))
    have hBo619 : Cd (lg1 = 0 ∧ lb2_602 < 19999) (Fx [50] (lb + 1) A A600) := Cd_mk (fun hC => Fx_f (Cd_ap hBo597 (by omega)) hF604 (by decide))
    refine jx_ld (pc_q := 317) (l_q := jSto1 L598 3 (.int (i32 (r601)))) (st_q := []) rfl rfl ?_
    obtain ⟨L620, eL620⟩ : ∃ q, q = jSto1 L598 3 (.int (i32 (r601))) := ⟨_, rfl⟩
    rw [← eL620]
    have gL620_0 : jGet L620 0 = some (.ref 66) := eL620 ▸ jg_ne (by decide) gL598_0 rfl
    have gL620_1 : jGet L620 1 = some (.int (i32 (p))) := eL620 ▸ jg_ne (by decide) gL598_1 rfl
    have gL620_2 : jGet L620 2 = some (.int (i32 (r579))) := eL620 ▸ jg_ne (by decide) gL598_2 rfl
    have gL620_3 : jGet L620 3 = some (.int (i32 (r601))) := eL620 ▸ jg_eq
    have _q : True := trivial
    refine jx_ld (pc_q := 318) (l_q := L620) (st_q := [.ref 66]) rfl (jl_aloadn gL620_0) ?_
    refine jx_ld (pc_q := 319) (l_q := L620) (st_q := [.int (i32 (r579)), .ref 66]) rfl (jl_iloadn gL620_2) ?_
    refine jx_vr (pc_q := 322) (as := [.int (i32 (r579))]) (st := []) rfl rfl rfl rfl ⟨rfl, rfl, Nat.le_of_ble_eq_true rfl⟩ rfl rfl (c_set (dd := d) (hd := by omega) (hW := hW603) (l := r579) (st := st1) (e_st := show G599 70 = st1 from ((hF604.1 70 rfl).trans ((hF582.1 70 rfl).trans (ex_st1))))  (h_l := ⟨(Int.le_trans (by decide : (-2147483648 : Int) ≤ -2147483648) b583.1), (Int.le_trans b583.2 (by decide : (2147483647 : Int) ≤ 2147483647))⟩)  (p_0 := by omega) (p_1 := by omega)) (fun o V_q hq => ?_)
    obtain ⟨G621, A622, ls2_623, rfl, rfl, hW624, hF625, e626, p627, q628⟩ := hq
    have hF629 := Fr_tr hF612 hF625 (Fr_sub (by decide)) (Fr_sub (by decide))
    have hC630 := Fx_f hC613 hF625 (by decide)
    have hAl631 := Fx_f hAl614 hF625 (by decide)
    have hBp632 := Fx_f hBp615 hF625 (by decide)
    have bls2_623 : (-2147483648 : Int) ≤ ls2_623 ∧ ls2_623 ≤ 2147483647 := e626 ▸ hW624.2 50 _
    refine .inl ⟨rfl, ?_⟩
    have a633 := q628
    have sf634 := FA_fr ((congrFun a633 51).trans (uA_ne (by decide))) sf616
    have sf635 := SA_fr ((congrFun a633 13).trans (uA_ne (by decide))) sf617
    have sf636 : Cd (lg1 = 0 ∧ lb2_602 < 19999) (gN T0 A622 F (nw) (T0 23 (p).toNat) ((T0 24 (p).toNat).toNat) (st) (st1)) := Cd_mk (fun hC => gN_mv (Cg_set (K := st1) (l0 := r579) (l1 := r579) a633 (by omega) (by omega)) (Int.le_refl _) (Cd_ap sf618 (by omega)))
    have hBo637 : Cd (lg1 = 0 ∧ lb2_602 < 19999) (Fx [50] (lb + 1) A A622) := Cd_mk (fun hC => Fx_u a633 (Cd_ap hBo619 (by omega)) (by omega) (by have hr := Cd_ap p588 (by omega); omega))
    have ls638 : Cd (lg1 = 0 ∧ lb2_602 < 19999) (LZ A622 (r579) (st1) (lb) (lb2_580)) := Cd_mk (fun hC => LZ_mk (by omega) (by have hr := Cd_ap p588 (by omega); omega) (by have hr := Cd_ap p588 (by omega); omega) ((show A622 50 (r579).toNat = ls2_623 from (e626)).trans (by omega)))
    refine jx_ld (pc_q := 323) (l_q := L620) (st_q := [.ref 66]) rfl (jl_aloadn gL620_0) ?_
    refine jx_ld (pc_q := 324) (l_q := L620) (st_q := [.ref 66, .ref 66]) rfl (jl_aloadn gL620_0) ?_
    refine jr_get (pc_q := 327) (i := 34) (v := .ref 84) rfl rfl (by decide) rfl rfl ?_
    refine jx_ld (pc_q := 328) (l_q := L620) (st_q := [.int (i32 (p)), .ref 84, .ref 66]) rfl (jl_iloadn gL620_1) ?_
    have b639 : (-2147483648 : Int) ≤ T0 17 (p).toNat ∧ T0 17 (p).toNat ≤ 2147483647 := hWT.2 17 _
    refine jr_ldv (pc_q := 329) (i := 17) (m := 7000) (z := p) (y := T0 17 (p).toNat) rfl (by decide) rfl (by decide) (by omega) (by omega) rfl (show A622 17 (p).toNat = T0 17 (p).toNat from (congrFun ((hF625.2 17 rfl).trans ((hF604.2 17 rfl).trans ((hF582.2 17 rfl).trans ((hFx.2 17 rfl).trans (p_0 17 rfl))))) _)) ?_
    refine jx_vr (pc_q := 332) (as := [.int (i32 (T0 17 (p).toNat))]) (st := []) rfl rfl rfl rfl ⟨rfl, rfl, Nat.le_of_ble_eq_true rfl⟩ rfl rfl (GE_all X 22 (dd := d) (hd := by omega) (hW := hW624) (e := T0 17 (p).toNat) (lo := p + 1) (hi := a7) (st := st1) (e_st := show G621 70 = st1 from ((hF625.1 70 rfl).trans ((hF604.1 70 rfl).trans ((hF582.1 70 rfl).trans (ex_st1))))) (lg := lg1) (e_lg := show G621 79 = lg1 from ((hF625.1 79 rfl).trans ((hF604.1 79 rfl).trans ((hF582.1 79 rfl).trans (ex_lg1))))) (lb := lb2_602) (e_lb := show G621 77 = lb2_602 from ((hF625.1 77 rfl).trans (e606))) (nw := nw) (e_nw := show G621 81 = nw from ((hF625.1 81 rfl).trans ((hF604.1 81 rfl).trans ((hF582.1 81 rfl).trans (fx_81)))))  (h_e := ⟨(Int.le_trans (by decide : (-2147483648 : Int) ≤ -2147483648) b639.1), (Int.le_trans b639.2 (by decide : (2147483647 : Int) ≤ 2147483647))⟩)  (p_0 := (TA_fr hF629 (by decide) p_0)) (p_1 := sf634) (p_2 := sf635) (p_3 := hVW1) (p_4 := by omega) (p_5 := by omega) (p_6 := by omega) (p_7 := by omega) (p_8 := by omega) (p_9 := by omega) (p_10 := by omega) (p_11 := by omega) (p_12 := by omega) (p_13 := (wE_mono (by omega) (by omega) (by omega) g3)) (p_14 := by omega)) (fun o V_q hq => ?_)
    obtain ⟨G640, A641, st2_642, lg2_643, lb2_644, rfl, rfl, hW645, hF646, hQ647, e648, e649, e650, p651, p652, p653, p654, p655, p656, p657, p658, p659, -⟩ := hq
    have hF661 := Fr_tr hF629 hF646 (Fr_sub (by decide)) (Fr_sub (by decide))
    have hC662 := Fx_tr hC630 hQ647 (by omega)
    have hAl663 := Fx_f hAl631 hF646 (by decide)
    have hBp664 := Fx_f hBp632 hF646 (by decide)
    have sf665 := FA_fr (hF646.2 51 rfl) sf634
    have sf666 := SA_fr (hF646.2 13 rfl) sf635
    have bst2_642 : (-2147483648 : Int) ≤ st2_642 ∧ st2_642 ≤ 2147483647 := e648 ▸ hW645.1 70
    have blg2_643 : (0 : Int) ≤ lg2_643 ∧ lg2_643 ≤ 1 := e649 ▸ hW645.1 79
    have blb2_644 : (-2147483648 : Int) ≤ lb2_644 ∧ lb2_644 ≤ 2147483647 := e650 ▸ hW645.1 77
    refine .inl ⟨rfl, ?_⟩
    have sf667 : Cd (lg2_643 = 0 ∧ lb2_644 < 19999) (gN T0 A641 F (nw) (T0 23 (p).toNat) ((T0 24 (p).toNat).toNat) (st) (st1)) := Cd_mk (fun hC => gN_mv (Cg_fx (l0 := 0) (l1 := 0) hQ647 (Cd_ap p658 (by omega)) (by omega)) (by omega) (Cd_ap sf636 (by omega)))
    have sf668 : Cd (lg2_643 = 0 ∧ lb2_644 < 19999) (LZ A641 (r579) (st1) (lb) (lb2_580)) := Cd_mk (fun hC => LZ_mv (Cg_fx (l0 := lb) (l1 := lb2_580) hQ647 (Cd_ap p658 (by omega)) (by omega)) (by omega) (Cd_ap ls638 (by omega)))
    have hBo669 : Cd (lg2_643 = 0 ∧ lb2_644 < 19999) (Fx [50] (lb + 1) A A641) := Cd_mk (fun hC => Fx_tr (Cd_ap hBo637 (by omega)) (Cd_ap p658 (by omega)) (by omega))
    refine jx_ld (pc_q := 333) (l_q := L620) (st_q := [.ref 66]) rfl (jl_aloadn gL620_0) ?_
    refine jx_ar (pc_q := 335) (st_q := [.int (i32 (10)), .ref 66]) rfl rfl rfl rfl ?_
    refine jx_ld (pc_q := 336) (l_q := L620) (st_q := [.int (i32 (r601)), .int (i32 (10)), .ref 66]) rfl (jl_iloadn gL620_3) ?_
    refine jx_ar (pc_q := 337) (st_q := [.int (i32 (0)), .int (i32 (r601)), .int (i32 (10)), .ref 66]) rfl rfl rfl rfl ?_
    refine jx_vr (pc_q := 340) (as := [.int (i32 (10)), .int (i32 (r601)), .int (i32 (0))]) (st := []) rfl rfl rfl rfl ⟨rfl, rfl, Nat.le_of_ble_eq_true rfl⟩ rfl rfl (c_way (dd := d) (hd := by omega) (hW := hW645) (fn := 10) (to := r601) (fr := 0) (st := st2_642) (e_st := show G640 70 = st2_642 from (e648)) (lg := lg2_643) (e_lg := show G640 79 = lg2_643 from (e649))  (h_fn := ⟨(by decide), (by decide)⟩) (h_to := ⟨(Int.le_trans (by decide : (-2147483648 : Int) ≤ -2147483648) b605.1), (Int.le_trans b605.2 (by decide : (2147483647 : Int) ≤ 2147483647))⟩) (h_fr := ⟨(by decide), (by decide)⟩)  (p_0 := by omega) (p_1 := by omega)) (fun o V_q hq => ?_)
    obtain ⟨G670, A671, st2_672, lg2_673, rfl, rfl, hW674, hF675, hQ676, e677, e678, p679, p680, p681, p682, p683, p684, -⟩ := hq
    have hF686 := Fr_tr hF661 hF675 (Fr_sub (by decide)) (Fr_sub (by decide))
    have hC687 := Fx_tr hC662 hQ676 (by omega)
    have hAl688 := Fx_f hAl663 hF675 (by decide)
    have hBp689 := Fx_f hBp664 hF675 (by decide)
    have sf690 := FA_fr (hF675.2 51 rfl) sf665
    have sf691 := SA_fr (hF675.2 13 rfl) sf666
    have bst2_672 : (-2147483648 : Int) ≤ st2_672 ∧ st2_672 ≤ 2147483647 := e677 ▸ hW674.1 70
    have blg2_673 : (0 : Int) ≤ lg2_673 ∧ lg2_673 ≤ 1 := e678 ▸ hW674.1 79
    refine .inl ⟨rfl, ?_⟩
    have sf692 : Cd (lg2_673 = 0 ∧ lb2_644 < 19999) (gN T0 A671 F (nw) (T0 23 (p).toNat) ((T0 24 (p).toNat).toNat) (st) (st1)) := Cd_mk (fun hC => gN_mv (Cg_fx (l0 := 0) (l1 := 0) hQ676 (Fx_f (w := 0 + 1) Fx_rf hF675 (by decide)) (by omega)) (by omega) (Cd_ap sf667 (by omega)))
    have sf693 : Cd (lg2_673 = 0 ∧ lb2_644 < 19999) (LZ A671 (r579) (st1) (lb) (lb2_580)) := Cd_mk (fun hC => LZ_mv (Cg_fx (l0 := lb) (l1 := lb2_580) hQ676 (Fx_f (w := lb2_580 + 1) Fx_rf hF675 (by decide)) (by omega)) (by omega) (Cd_ap sf668 (by omega)))
    have sf694 : Cd (lg2_673 = 0 ∧ lb2_644 < 19999) (gE T0 A671 F Sn nw (22) (T0 17 (p).toNat) (st1) (st2_642) (lb2_602) (lb2_644)) := Cd_mk (fun hC => gE_mv (Cg_fx (l0 := lb2_602) (l1 := lb2_644) hQ676 (Fx_f (w := lb2_644 + 1) Fx_rf hF675 (by decide)) (by omega)) (by omega) (Cd_ap p659 (by omega)))
    have hBo695 : Cd (lg2_673 = 0 ∧ lb2_644 < 19999) (Fx [50] (lb + 1) A A671) := Cd_mk (fun hC => Fx_f (Cd_ap hBo669 (by omega)) hF675 (by decide))
    refine jx_ld (pc_q := 341) (l_q := L620) (st_q := [.ref 66]) rfl (jl_aloadn gL620_0) ?_
    refine jx_ld (pc_q := 342) (l_q := L620) (st_q := [.ref 66, .ref 66]) rfl (jl_aloadn gL620_0) ?_
    refine jr_get (pc_q := 345) (i := 38) (v := .ref 88) rfl rfl (by decide) rfl rfl ?_
    refine jx_ld (pc_q := 346) (l_q := L620) (st_q := [.int (i32 (p)), .ref 88, .ref 66]) rfl (jl_iloadn gL620_1) ?_
    have b696 : (-2147483648 : Int) ≤ T0 21 (p).toNat ∧ T0 21 (p).toNat ≤ 2147483647 := hWT.2 21 _
    refine jr_ldv (pc_q := 347) (i := 21) (m := 7000) (z := p) (y := T0 21 (p).toNat) rfl (by decide) rfl (by decide) (by omega) (by omega) rfl (show A671 21 (p).toNat = T0 21 (p).toNat from (congrFun ((hF675.2 21 rfl).trans ((hF646.2 21 rfl).trans ((hF625.2 21 rfl).trans ((hF604.2 21 rfl).trans ((hF582.2 21 rfl).trans ((hFx.2 21 rfl).trans (p_0 21 rfl))))))) _)) ?_
    refine jx_vr (pc_q := 350) (as := [.int (i32 (T0 21 (p).toNat))]) (st := []) rfl rfl rfl rfl ⟨rfl, rfl, Nat.le_of_ble_eq_true rfl⟩ rfl rfl (hN (dd := d) (hd := by omega) (hW := hW674) (p := T0 21 (p).toNat) (lo := a7) (hi := hi) (s0 := s0 + T0 24 (p).toNat) (s1 := s1) (fr := fr + zS T0 (T0 23 (p).toNat) (T0 24 (p).toNat).toNat) (z := z) (D := D) (bd := b1) (st := st2_672) (e_st := show G670 70 = st2_672 from (e677)) (lg := lg2_673) (e_lg := show G670 79 = lg2_673 from (e678)) (lb := lb2_644) (e_lb := show G670 77 = lb2_644 from ((hF675.1 77 rfl).trans (e650))) (nw := nw) (e_nw := show G670 81 = nw from ((hF675.1 81 rfl).trans ((hF646.1 81 rfl).trans ((hF625.1 81 rfl).trans ((hF604.1 81 rfl).trans ((hF582.1 81 rfl).trans (fx_81))))))) (al := al) (e_al := show G670 89 = al from ((hF675.1 89 rfl).trans ((hF646.1 89 rfl).trans ((hF625.1 89 rfl).trans ((hF604.1 89 rfl).trans ((hF582.1 89 rfl).trans (fx_89))))))) (fw := fw1) (e_fw := show A671 51 (nw).toNat = fw1 from (congrFun ((hF675.2 51 rfl).trans ((hF646.2 51 rfl).trans ((hF625.2 51 rfl).trans ((hF604.2 51 rfl).trans (hF582.2 51 rfl))))) _).trans (ex_fw1))  (h_p := ⟨(Int.le_trans (by decide : (-2147483648 : Int) ≤ -2147483648) b696.1), (Int.le_trans b696.2 (by decide : (2147483647 : Int) ≤ 2147483647))⟩)  (p_0 := (TA_fr hF686 (by decide) p_0)) (p_1 := sf690) (p_2 := sf691) (p_3 := hVW1) (p_4 := by omega) (p_5 := by omega) (p_6 := by omega) (p_7 := by omega) (p_8 := by omega) (p_9 := by omega) (p_10 := by omega) (p_11 := by omega) (p_12 := by omega) (p_13 := by omega) (p_14 := by omega) (p_15 := by omega) (p_16 := by omega) (p_17 := g4) (p_18 := (VB_mo hVB1 (by omega))) (p_19 := hy.2) (p_20 := hb1) (p_21 := by omega) (p_22 := by omega) (p_23 := by omega) (p_24 := by omega) (p_25 := by omega) (p_26 := by omega) (p_27 := by omega) (p_28 := p_28) (p_29 := (PA_fr (hF686.2 52 rfl) p_29))) (fun o V_q hq => ?_)
    obtain ⟨G697, A698, st2_699, lg2_700, lb2_701, nw2_702, al2_703, fw2_704, rfl, rfl, hW705, hF706, hQ707, hQ708, hQ709, e710, e711, e712, e713, e714, e715, p716, p717, p718, p719, p720, p721, p722, p723, p724, p725, p726, p727, p728, p729, -⟩ := hq
    have hF731 := Fr_tr hF686 hF706 (Fr_sub (by decide)) (Fr_sub (by decide))
    have hC732 := Fx_tr hC687 hQ707 (by omega)
    have hAl733 := Fx_tr hAl688 hQ708 (by omega)
    have hBp734 := Fx_tr hBp689 hQ709 (by omega)
    have bst2_699 : (-2147483648 : Int) ≤ st2_699 ∧ st2_699 ≤ 2147483647 := e710 ▸ hW705.1 70
    have blg2_700 : (0 : Int) ≤ lg2_700 ∧ lg2_700 ≤ 1 := e711 ▸ hW705.1 79
    have blb2_701 : (-2147483648 : Int) ≤ lb2_701 ∧ lb2_701 ≤ 2147483647 := e712 ▸ hW705.1 77
    have bnw2_702 : (-2147483648 : Int) ≤ nw2_702 ∧ nw2_702 ≤ 2147483647 := e713 ▸ hW705.1 81
    have bal2_703 : (-2147483648 : Int) ≤ al2_703 ∧ al2_703 ≤ 2147483647 := e714 ▸ hW705.1 89
    have bfw2_704 : (-2147483648 : Int) ≤ fw2_704 ∧ fw2_704 ≤ 2147483647 := e715 ▸ hW705.2 51 _
    refine .inl ⟨rfl, ?_⟩
    have sf735 : Cd (lg2_700 = 0 ∧ lb2_701 < 19999) (gN T0 A698 F (nw) (T0 23 (p).toNat) ((T0 24 (p).toNat).toNat) (st) (st1)) := Cd_mk (fun hC => gN_mv (Cg_fx (l0 := 0) (l1 := 0) hQ707 (Cd_ap p723 (by omega)) (by omega)) (by omega) (Cd_ap sf692 (by omega)))
    have sf736 : Cd (lg2_700 = 0 ∧ lb2_701 < 19999) (LZ A698 (r579) (st1) (lb) (lb2_580)) := Cd_mk (fun hC => LZ_mv (Cg_fx (l0 := lb) (l1 := lb2_580) hQ707 (Cd_ap p723 (by omega)) (by omega)) (by omega) (Cd_ap sf693 (by omega)))
    have sf737 : Cd (lg2_700 = 0 ∧ lb2_701 < 19999) (gE T0 A698 F Sn nw (22) (T0 17 (p).toNat) (st1) (st2_642) (lb2_602) (lb2_644)) := Cd_mk (fun hC => gE_mv (Cg_fx (l0 := lb2_602) (l1 := lb2_644) hQ707 (Cd_ap p723 (by omega)) (by omega)) (by omega) (Cd_ap sf694 (by omega)))
    have sf738 : Cd (lg2_700 = 0 ∧ lb2_701 < 19999) (WY A698 (st2_642) (st2_672) (10) (r601) (0)) := Cd_mk (fun hC => WY_mv (Cg_fx (l0 := 0) (l1 := 0) hQ707 (Cd_ap p723 (by omega)) (by omega)) (by omega) (Cd_ap p684 (by omega)))
    have hBo739 : Cd (lg2_700 = 0 ∧ lb2_701 < 19999) (Fx [50] (lb + 1) A A698) := Cd_mk (fun hC => Fx_tr (Cd_ap hBo695 (by omega)) (Cd_ap p723 (by omega)) (by omega))
    refine jx_ld (pc_q := 351) (l_q := L620) (st_q := [.ref 66]) rfl (jl_aloadn gL620_0) ?_
    refine jx_ar (pc_q := 352) (st_q := [.int (i32 (0)), .ref 66]) rfl rfl rfl rfl ?_
    refine jx_ld (pc_q := 353) (l_q := L620) (st_q := [.int (i32 (r579)), .int (i32 (0)), .ref 66]) rfl (jl_iloadn gL620_2) ?_
    refine jx_ar (pc_q := 354) (st_q := [.int (i32 (0)), .int (i32 (r579)), .int (i32 (0)), .ref 66]) rfl rfl rfl rfl ?_
    refine jx_vr (pc_q := 357) (as := [.int (i32 (0)), .int (i32 (r579)), .int (i32 (0))]) (st := []) rfl rfl rfl rfl ⟨rfl, rfl, Nat.le_of_ble_eq_true rfl⟩ rfl rfl (c_way (dd := d) (hd := by omega) (hW := hW705) (fn := 0) (to := r579) (fr := 0) (st := st2_699) (e_st := show G697 70 = st2_699 from (e710)) (lg := lg2_700) (e_lg := show G697 79 = lg2_700 from (e711))  (h_fn := ⟨(by decide), (by decide)⟩) (h_to := ⟨(Int.le_trans (by decide : (-2147483648 : Int) ≤ -2147483648) b583.1), (Int.le_trans b583.2 (by decide : (2147483647 : Int) ≤ 2147483647))⟩) (h_fr := ⟨(by decide), (by decide)⟩)  (p_0 := by omega) (p_1 := by omega)) (fun o V_q hq => ?_)
    obtain ⟨G740, A741, st2_742, lg2_743, rfl, rfl, hW744, hF745, hQ746, e747, e748, p749, p750, p751, p752, p753, p754, -⟩ := hq
    have hF756 := Fr_tr hF731 hF745 (Fr_sub (by decide)) (Fr_sub (by decide))
    have hC757 := Fx_tr hC732 hQ746 (by omega)
    have hAl758 := Fx_f hAl733 hF745 (by decide)
    have hBp759 := Fx_f hBp734 hF745 (by decide)
    have sf760 := FA_fr (hF745.2 51 rfl) p727
    have sf761 := SA_fr (hF745.2 13 rfl) p728
    have bst2_742 : (-2147483648 : Int) ≤ st2_742 ∧ st2_742 ≤ 2147483647 := e747 ▸ hW744.1 70
    have blg2_743 : (0 : Int) ≤ lg2_743 ∧ lg2_743 ≤ 1 := e748 ▸ hW744.1 79
    refine .inl ⟨rfl, ?_⟩
    have sf762 : Cd (lg2_743 = 0 ∧ lb2_701 < 19999) (gN T0 A741 F (nw) (T0 23 (p).toNat) ((T0 24 (p).toNat).toNat) (st) (st1)) := Cd_mk (fun hC => gN_mv (Cg_fx (l0 := 0) (l1 := 0) hQ746 (Fx_f (w := 0 + 1) Fx_rf hF745 (by decide)) (by omega)) (by omega) (Cd_ap sf735 (by omega)))
    have sf763 : Cd (lg2_743 = 0 ∧ lb2_701 < 19999) (LZ A741 (r579) (st1) (lb) (lb2_580)) := Cd_mk (fun hC => LZ_mv (Cg_fx (l0 := lb) (l1 := lb2_580) hQ746 (Fx_f (w := lb2_580 + 1) Fx_rf hF745 (by decide)) (by omega)) (by omega) (Cd_ap sf736 (by omega)))
    have sf764 : Cd (lg2_743 = 0 ∧ lb2_701 < 19999) (gE T0 A741 F Sn nw (22) (T0 17 (p).toNat) (st1) (st2_642) (lb2_602) (lb2_644)) := Cd_mk (fun hC => gE_mv (Cg_fx (l0 := lb2_602) (l1 := lb2_644) hQ746 (Fx_f (w := lb2_644 + 1) Fx_rf hF745 (by decide)) (by omega)) (by omega) (Cd_ap sf737 (by omega)))
    have sf765 : Cd (lg2_743 = 0 ∧ lb2_701 < 19999) (WY A741 (st2_642) (st2_672) (10) (r601) (0)) := Cd_mk (fun hC => WY_mv (Cg_fx (l0 := 0) (l1 := 0) hQ746 (Fx_f (w := 0 + 1) Fx_rf hF745 (by decide)) (by omega)) (by omega) (Cd_ap sf738 (by omega)))
    have sf766 : Cd (lg2_743 = 0 ∧ lb2_701 < 19999) (gP T0 A741 Q (k) (F) (Sn) (nw) (T0 21 (p).toNat) (st2_672) (st2_699) (lb2_644) (lb2_701)) := Cd_mk (fun hC => gP_mv (Cg_fx (l0 := lb2_644) (l1 := lb2_701) hQ746 (Fx_f (w := lb2_701 + 1) Fx_rf hF745 (by decide)) (by omega)) (by omega) (Cd_ap p729 (by omega)))
    have hBo767 : Cd (lg2_743 = 0 ∧ lb2_701 < 19999) (Fx [50] (lb + 1) A A741) := Cd_mk (fun hC => Fx_f (Cd_ap hBo739 (by omega)) hF745 (by decide))
    refine jx_ld (pc_q := 358) (l_q := L620) (st_q := [.ref 66]) rfl (jl_aloadn gL620_0) ?_
    refine jx_ld (pc_q := 359) (l_q := L620) (st_q := [.int (i32 (r601)), .ref 66]) rfl (jl_iloadn gL620_3) ?_
    refine jx_vr (pc_q := 362) (as := [.int (i32 (r601))]) (st := []) rfl rfl rfl rfl ⟨rfl, rfl, Nat.le_of_ble_eq_true rfl⟩ rfl rfl (c_set (dd := d) (hd := by omega) (hW := hW744) (l := r601) (st := st2_742) (e_st := show G740 70 = st2_742 from (e747))  (h_l := ⟨(Int.le_trans (by decide : (-2147483648 : Int) ≤ -2147483648) b605.1), (Int.le_trans b605.2 (by decide : (2147483647 : Int) ≤ 2147483647))⟩)  (p_0 := by omega) (p_1 := by omega)) (fun o V_q hq => ?_)
    obtain ⟨G768, A769, ls2_770, rfl, rfl, hW771, hF772, e773, p774, q775⟩ := hq
    have hF776 := Fr_tr hF756 hF772 (Fr_sub (by decide)) (Fr_sub (by decide))
    have hC777 := Fx_f hC757 hF772 (by decide)
    have hAl778 := Fx_f hAl758 hF772 (by decide)
    have hBp779 := Fx_f hBp759 hF772 (by decide)
    have bls2_770 : (-2147483648 : Int) ≤ ls2_770 ∧ ls2_770 ≤ 2147483647 := e773 ▸ hW771.2 50 _
    refine .inl ⟨rfl, ?_⟩
    have a780 := q775
    have sf781 := FA_fr ((congrFun a780 51).trans (uA_ne (by decide))) sf760
    have sf782 := SA_fr ((congrFun a780 13).trans (uA_ne (by decide))) sf761
    have sf783 : Cd (lg2_743 = 0 ∧ lb2_701 < 19999) (gN T0 A769 F (nw) (T0 23 (p).toNat) ((T0 24 (p).toNat).toNat) (st) (st1)) := Cd_mk (fun hC => gN_mv (Cg_set (K := st1) (l0 := r601) (l1 := r601) a780 (by omega) (by omega)) (Int.le_refl _) (Cd_ap sf762 (by omega)))
    have sf784 : Cd (lg2_743 = 0 ∧ lb2_701 < 19999) (LZ A769 (r579) (st1) (lb) (lb2_580)) := Cd_mk (fun hC => LZ_mv (Cg_set (K := st1) a780 (by omega) (by have hr := Cd_ap p610 (by omega); omega)) (Int.le_refl _) (Cd_ap sf763 (by omega)))
    have sf785 : Cd (lg2_743 = 0 ∧ lb2_701 < 19999) (gE T0 A769 F Sn nw (22) (T0 17 (p).toNat) (st1) (st2_642) (lb2_602) (lb2_644)) := Cd_mk (fun hC => gE_mv (Cg_set (K := st2_642) a780 (by omega) (by have hr := Cd_ap p610 (by omega); omega)) (Int.le_refl _) (Cd_ap sf764 (by omega)))
    have sf786 : Cd (lg2_743 = 0 ∧ lb2_701 < 19999) (WY A769 (st2_642) (st2_672) (10) (r601) (0)) := Cd_mk (fun hC => WY_mv (Cg_set (K := st2_672) (l0 := r601) (l1 := r601) a780 (by omega) (by omega)) (Int.le_refl _) (Cd_ap sf765 (by omega)))
    have sf787 : Cd (lg2_743 = 0 ∧ lb2_701 < 19999) (gP T0 A769 Q (k) (F) (Sn) (nw) (T0 21 (p).toNat) (st2_672) (st2_699) (lb2_644) (lb2_701)) := Cd_mk (fun hC => gP_mv (Cg_set (K := st2_699) a780 (by omega) (by have hr := Cd_ap p610 (by omega); omega)) (Int.le_refl _) (Cd_ap sf766 (by omega)))
    have sf788 : Cd (lg2_743 = 0 ∧ lb2_701 < 19999) (WY A769 (st2_699) (st2_742) (0) (r579) (0)) := Cd_mk (fun hC => WY_mv (Cg_set (K := st2_742) (l0 := r601) (l1 := r601) a780 (by omega) (by omega)) (Int.le_refl _) (Cd_ap p754 (by omega)))
    have hBo789 : Cd (lg2_743 = 0 ∧ lb2_701 < 19999) (Fx [50] (lb + 1) A A769) := Cd_mk (fun hC => Fx_u a780 (Cd_ap hBo767 (by omega)) (by omega) (by have hr := Cd_ap p610 (by omega); omega))
    refine jx_go (tg := 373) rfl rfl ?_
    refine jx_rt (v := none) rfl rfl rfl rfl rfl rfl ?_
    exact ⟨_, _, st2_742, lg2_743, lb2_701, nw2_702, al2_703, fw2_704, rfl, rfl, hW771, hF776, hC777, hAl778, hBp779, ((hF772.1 70 rfl).trans (e747)), ((hF772.1 79 rfl).trans (e748)), ((hF772.1 77 rfl).trans ((hF745.1 77 rfl).trans (e712))), ((hF772.1 81 rfl).trans ((hF745.1 81 rfl).trans (e713))), ((hF772.1 89 rfl).trans ((hF745.1 89 rfl).trans (e714))), (congrFun ((hF772.2 51 rfl).trans (hF745.2 51 rfl)) _).trans (e715), by omega, by omega, by omega, by omega, by omega, (Cd_mk (fun hC => by have := Cd_ap p656 (by omega); have := Cd_ap p721 (by omega); omega)), by omega, (Cd_mk (fun hC => Cd_ap hBo789 (by omega))), by omega, by omega, by omega, sf781, (SA_su Vd_l sf782), (Cd_mk (fun hC => (gP_mk (by omega) (Cd_ap sf783 (by omega)) (.inr (.inr (.inr (.inr (.inr (.inr (.inr (.inr (.inr (.inr (.inl ⟨hkd, _, _, _, lb2_602, lb2_644, by omega, by omega, by omega, (Cd_ap sf785 (by omega)), JP_ls (Cd_ap sf786 (by omega)) (LZ_su (LZ_mk (l0 := lb2_580) (l1 := lb2_602) (by omega) (by have hr := Cd_ap p610 (by omega); omega) (by have hr := Cd_ap p610 (by omega); omega) ((show A769 50 (r601).toNat = ls2_770 from (e773)).trans (by omega))) (by omega) (by omega)), (Cd_ap sf787 (by omega)), JP_ls (Cd_ap sf788 (by omega)) (LZ_su (Cd_ap sf784 (by omega)) (by omega) (by omega))⟩)))))))))))))), trivial⟩
  · refine jx_swe (z := 32) (tg := 365) h46 rfl rfl rfl rfl ?_
    have hkd : T0 15 (p).toNat = 32 := (by omega); obtain ⟨g1, g2, l0, ch0, g3, g4⟩ := wS_i32 w8 hkd; have hQ0 := LN2_0 ch0 g4 g3 rfl; have hy := y3.2.2.2.2.2.2.2.2.2 hkd; have hy1 := hy.1; have hy2 := hy.2.1; obtain ⟨b1, hb1⟩ : ∃ b, WB (p) hi b := WB_ex _ _; have hbb := WB_le p_20 hb1 (by omega) (by omega) (by omega)
    refine jx_ld (pc_q := 366) (l_q := L) (st_q := [.ref 66]) rfl (jl_aloadn gL_0) ?_
    refine jx_ld (pc_q := 367) (l_q := L) (st_q := [.int (i32 (p)), .ref 66]) rfl (jl_iloadn gL_1) ?_
    refine jx_vr (pc_q := 370) (as := [.int (i32 (p))]) (st := []) rfl rfl rfl rfl ⟨rfl, rfl, Nat.le_of_ble_eq_true rfl⟩ rfl rfl (c_genAlt (dd := d) (hN := hN) (hd := by omega) (hW := hWx) (n := p) (hi := hi) (s0 := s0 + T0 24 (p).toNat) (s1 := s1) (fr := fr + zS T0 (T0 23 (p).toNat) (T0 24 (p).toNat).toNat + 2 * T0 18 (p).toNat) (z := z) (D := D) (bd := b1) (st := st1) (e_st := show Gx 70 = st1 from (ex_st1)) (lg := lg1) (e_lg := show Gx 79 = lg1 from (ex_lg1)) (lb := lb) (e_lb := show Gx 77 = lb from (fx_77)) (nw := nw) (e_nw := show Gx 81 = nw from (fx_81)) (al := al) (e_al := show Gx 89 = al from (fx_89)) (fw := fw1) (e_fw := show Ax 51 (nw).toNat = fw1 from (ex_fw1))  (h_n := ⟨(Int.le_trans (by decide : (-2147483648 : Int) ≤ -2147483648) h_p.1), (Int.le_trans h_p.2 (by decide : (2147483647 : Int) ≤ 2147483647))⟩)  (p_0 := (TA_fr hFx (by decide) p_0)) (p_1 := iv_5) (p_2 := iv_6) (p_3 := hVW1) (p_4 := by omega) (p_5 := by omega) (p_6 := by omega) (p_7 := by omega) (p_8 := by omega) (p_9 := by omega) (p_10 := by omega) (p_11 := by omega) (p_12 := by omega) (p_13 := by omega) (p_14 := by omega) (p_15 := by omega) (p_16 := by omega) (p_17 := by omega) (p_18 := by omega) (p_19 := by omega) (p_20 := by omega) (p_21 := hQ0) (p_22 := (VB_mo hVB1 (by omega))) (p_23 := hy.2.2) (p_24 := by omega) (p_25 := by omega) (p_26 := hb1) (p_27 := by omega) (p_28 := by omega) (p_29 := by omega) (p_30 := by omega) (p_31 := by omega) (p_32 := by omega) (p_33 := by omega) (p_34 := p_28) (p_35 := (PA_fr (hFx.2 52 rfl) p_29))) (fun o V_q hq => ?_)
    obtain ⟨G790, A791, st2_792, lg2_793, lb2_794, nw2_795, al2_796, fw2_797, rfl, rfl, hW798, hF799, hQ800, hQ801, hQ802, e803, e804, e805, e806, e807, e808, p809, p810, p811, p812, p813, p814, p815, p816, p817, p818, p819, p820, p821, p822, -⟩ := hq
    have hF824 := Fr_tr hFx hF799 (Fr_sub (by decide)) (Fr_sub (by decide))
    have hC825 := Fx_tr hCx hQ800 (by omega)
    have hAl826 := Fx_tr hAlx hQ801 (by omega)
    have hBp827 := Fx_tr hBpx hQ802 (by omega)
    have bst2_792 : (-2147483648 : Int) ≤ st2_792 ∧ st2_792 ≤ 2147483647 := e803 ▸ hW798.1 70
    have blg2_793 : (0 : Int) ≤ lg2_793 ∧ lg2_793 ≤ 1 := e804 ▸ hW798.1 79
    have blb2_794 : (-2147483648 : Int) ≤ lb2_794 ∧ lb2_794 ≤ 2147483647 := e805 ▸ hW798.1 77
    have bnw2_795 : (-2147483648 : Int) ≤ nw2_795 ∧ nw2_795 ≤ 2147483647 := e806 ▸ hW798.1 81
    have bal2_796 : (-2147483648 : Int) ≤ al2_796 ∧ al2_796 ≤ 2147483647 := e807 ▸ hW798.1 89
    have bfw2_797 : (-2147483648 : Int) ≤ fw2_797 ∧ fw2_797 ≤ 2147483647 := e808 ▸ hW798.2 51 _
    refine .inl ⟨rfl, ?_⟩
    have sf828 : Cd (lg2_793 = 0 ∧ lb2_794 < 19999) (gN T0 A791 F (nw) (T0 23 (p).toNat) ((T0 24 (p).toNat).toNat) (st) (st1)) := Cd_mk (fun hC => gN_mv (Cg_fx (l0 := 0) (l1 := 0) hQ800 (Cd_ap p816 (by omega)) (by omega)) (by omega) (Cd_ap iv_7 (by omega)))
    have hBo829 : Cd (lg2_793 = 0 ∧ lb2_794 < 19999) (Fx [50] (lb + 1) A A791) := Cd_mk (fun hC => Fx_tr (Cd_ap hBox (by omega)) (Cd_ap p816 (by omega)) (by omega))
    refine jx_go (tg := 373) rfl rfl ?_
    refine jx_rt (v := none) rfl rfl rfl rfl rfl rfl ?_
    exact ⟨_, _, st2_792, lg2_793, lb2_794, nw2_795, al2_796, fw2_797, rfl, rfl, hW798, hF824, hC825, hAl826, hBp827, (e803), (e804), (e805), (e806), (e807), (e808), by omega, by omega, by omega, by omega, by omega, (Cd_mk (fun hC => by have := Cd_ap p814 (by omega); omega)), by omega, (Cd_mk (fun hC => Cd_ap hBo829 (by omega))), by omega, by omega, by omega, p820, (SA_su Vd_l p821), (Cd_mk (fun hC => (gP_mk (by omega) (Cd_ap sf828 (by omega)) (.inr (.inr (.inr (.inr (.inr (.inr (.inr (.inr (.inr (.inr (.inr (⟨hkd, (Cd_ap p822 (by omega))⟩))))))))))))))), trivial⟩
  · refine jx_swt (tg := 373) (by omega) (by omega) rfl h46 rfl ?_
    refine jx_rt (v := none) rfl rfl rfl rfl rfl rfl ?_
    exact ⟨_, _, st1, lg1, lb, nw, al, fw1, rfl, rfl, hWx, hFx, hCx, hAlx, hBpx, (ex_st1), (ex_lg1), (fx_77), (fx_81), (fx_89), (ex_fw1), by omega, by omega, by omega, by omega, by omega, (Cd_mk (fun hC => by omega)), by omega, (Cd_mk (fun hC => Cd_ap hBox (by omega))), by omega, by omega, by omega, iv_5, (SA_su Vd_l iv_6), (Cd_mk (fun hC => (gP_mk (by omega) (Cd_ap iv_7 (by omega)) (.inl ⟨by have := wS_kd w8; omega, by omega⟩)))), trivial⟩
set_option maxRecDepth 20000 in
set_option maxHeartbeats 4000000 in
theorem c_gen_s_at_7 {X : jX} {k : Nat} (hN : GN X k) {d : Nat} {T0 : Nat → Nat → Int} {Q F Sn : Int → Int} {Vs : Nat → Prop} {sb pb : Int} {c0 c1 : jC} {G : Nat → Int} {A : Nat → Nat → Int} {T : jH} {p : Int} {lo hi s0 s1 fr z D bd : Int} {st lg lb nw al fw : Int} (hd : 2 * (k + 1) + 62 ≤ d + 1) (hW : Wk G A) (e_st : G 70 = st) (e_lg : G 79 = lg) (e_lb : G 77 = lb) (e_nw : G 81 = nw) (e_al : G 89 = al) (e_fw : A 51 (nw).toNat = fw) (h_p : (-2147483648 : Int) ≤ p ∧ p ≤ 2147483647) (p_0 : TA T0 A) (p_1 : FA F (nw) A) (p_2 : SA T0 Vs Sn A) (p_3 : VW T0 Vs (nw)) (p_4 : 0 ≤ nw) (p_5 : nw + ((k + 1 : Nat) : Int) ≤ 38) (p_6 : 0 ≤ al) (p_7 : al + ((k + 1 : Nat) : Int) ≤ 38) (p_8 : 0 ≤ st) (p_9 : st ≤ 7000) (p_10 : 0 ≤ lb) (p_11 : lb + bd + 7000 - st ≤ 1900000000) (p_12 : hi ≤ 6999) (p_13 : sb ≤ 202) (p_14 : 0 ≤ lo) (p_15 : 0 ≤ s0) (p_16 : s1 ≤ sb) (p_17 : wP T0 sb pb (k + 1) (Vs) (p) (lo) (hi) (s0) (s1)) (p_18 : VB (Vs) (s0)) (p_19 : lP T0 (k + 1) (p) (fr) (nw) (z) (D)) (p_20 : WB (lo) (hi) (bd)) (p_21 : 1 ≤ fr) (p_22 : z ≤ 4000) (p_23 : 0 ≤ D) (p_24 : D ≤ 4000) (p_25 : -4000 ≤ fw - D) (p_26 : fw ≤ 0) (p_27 : pb ≤ 24) (p_28 : PV T0 pb) (p_29 : PA Q pb A) : ∀ (m : Nat) (L : jL) (Gx : Nat → Int) (Ax : Nat → Nat → Int) (s st1 lg1 fw1 : Int), ((s0 + T0 24 (p).toNat) - s).toNat = m → jGet L 0 = some (.ref 66) → jGet L 1 = some (.int (i32 (p))) → jGet L 2 = some (.int (i32 s)) → Wk Gx Ax → Fr [70, 77, 79, 81, 89] [13, 44, 45, 46, 47, 50, 51, 56, 57, 58] G A Gx Ax → Fx [44, 45, 46, 47] (st) A Ax → Fx [58] (8 * al) A Ax → Fx [56, 57] (8 * nw) A Ax → Cd (lg1 = 0 ∧ lb < 19999) (Fx [50] (lb + 1) A Ax) → Gx 70 = st1 → Gx 79 = lg1 → Ax 51 (nw).toNat = fw1 → Gx 81 = nw → Gx 89 = al → Gx 77 = lb → ((-2147483648 : Int) ≤ s ∧ s ≤ 2147483647) → (st ≤ st1) → (st1 ≤ 7000) → (lg ≤ lg1) → (lg1 ≤ 1) → (fw1 = fw) → (FA F (nw) Ax) → (SA T0 ((Vd Vs s0 (s0 + T0 24 (p).toNat))) Sn Ax) → (s0 ≤ s) → (s ≤ (s0 + T0 24 (p).toNat)) → (Cd (lg1 = 0 ∧ lb < 19999) (gN T0 Ax F (nw) (T0 23 (p).toNat) ((s - T0 23 (p).toNat).toNat) (st) (st1))) → wj X d jm353 (7, L, [], rV c0 c1 Gx Ax T) (fun o V_q => ∃ (G_q : Nat → Int) (A_q : Nat → Nat → Int) (st2 : Int) (lg2 : Int) (lb2 : Int) (nw2 : Int) (al2 : Int) (fw2 : Int), V_q = rV c0 c1 G_q A_q T ∧ o = .inl none ∧ Wk G_q A_q ∧ Fr [70, 77, 79, 81, 89] [13, 44, 45, 46, 47, 50, 51, 56, 57, 58] G A G_q A_q ∧ Fx [44, 45, 46, 47] (st) A A_q ∧ Fx [58] (8 * al) A A_q ∧ Fx [56, 57] (8 * nw) A A_q ∧ G_q 70 = st2 ∧ G_q 79 = lg2 ∧ G_q 77 = lb2 ∧ G_q 81 = nw2 ∧ G_q 89 = al2 ∧ A_q 51 (nw).toNat = fw2 ∧ (st ≤ st2) ∧ (st2 ≤ 7000) ∧ (lg ≤ lg2) ∧ (lg2 ≤ 1) ∧ (lb ≤ lb2) ∧ (Cd (lg2 = 0) (lb2 - lb ≤ st2 - st)) ∧ (lb2 - lb ≤ st2 - st + bd) ∧ (Cd (lg2 = 0 ∧ lb2 < 19999) (Fx [50] (lb + 1) A A_q)) ∧ (nw2 = nw) ∧ (al2 = al) ∧ (fw2 = fw) ∧ (FA F (nw) A_q) ∧ (SA T0 Vs Sn A_q) ∧ (Cd (lg2 = 0 ∧ lb2 < 19999) (gP T0 A_q Q (k + 1) (F) (Sn) (nw) (p) (st) (st2) (lb) (lb2))) ∧ True) := by
  have hF0 : Fr [70, 77, 79, 81, 89] [13, 44, 45, 46, 47, 50, 51, 56, 57, 58] G A G A := Fr_rf
  have hC0 : Fx [44, 45, 46, 47] (st) A A := Fx_rf
  have hAl0 : Fx [58] (8 * al) A A := Fx_rf
  have hBp0 : Fx [56, 57] (8 * nw) A A := Fx_rf
  have b_st : (-2147483648 : Int) ≤ st ∧ st ≤ 2147483647 := e_st ▸ hW.1 70
  have b_lg : (0 : Int) ≤ lg ∧ lg ≤ 1 := e_lg ▸ hW.1 79
  have b_lb : (-2147483648 : Int) ≤ lb ∧ lb ≤ 2147483647 := e_lb ▸ hW.1 77
  have b_nw : (-2147483648 : Int) ≤ nw ∧ nw ≤ 2147483647 := e_nw ▸ hW.1 81
  have b_al : (-2147483648 : Int) ≤ al ∧ al ≤ 2147483647 := e_al ▸ hW.1 89
  have b_fw : (-2147483648 : Int) ≤ fw ∧ fw ≤ 2147483647 := e_fw ▸ hW.2 51 _
  have hWT := TA_w hW p_0
  have hBo0 : Cd (lg = 0 ∧ lb < 19999) (Fx [50] (lb + 1) A A) := Cd_mk (fun _ => Fx_rf)
  have hfw := FA_at p_1 p_4 e_fw
  have hwp := p_17
  unfold wP at hwp
  obtain ⟨w1, w2, w3, w4, w5, w6, w7, w8⟩ := hwp
  have hly := p_19
  unfold lP at hly
  obtain ⟨y1, y2, y3⟩ := hly
  have hm24 : (((T0 24 (p).toNat).toNat : Nat) : Int) = T0 24 (p).toNat := by omega
  have hz0 := (zS_le (A := T0) (s := T0 23 (p).toNat) (m := (T0 24 (p).toNat).toNat) (fun j hj => by have := w7 (T0 23 (p).toNat + (j : Int)).toNat (by omega) (by omega); omega) (j := (T0 24 (p).toNat).toNat) (Nat.le_refl _)).1
  have hVW1 : VW T0 (Vd Vs s0 (s0 + T0 24 (p).toNat)) nw := (by have q := VW_d (m := (T0 24 (p).toNat).toNat) (f := fr) p_3 w3 p_4 (by rw [hm24]; exact w7) (by rw [← w4]; exact y1) (by omega) (by rw [← w4]; omega); rw [hm24] at q; exact q); have hSA1 : SA T0 (Vd Vs s0 (s0 + T0 24 (p).toNat)) Sn A := SA_d p_2 w7; have hVB1 : VB (Vd Vs s0 (s0 + T0 24 (p).toNat)) (s0 + T0 24 (p).toNat) := VB_d p_18 (by omega)
  intro m
  induction m using Nat.strongRecOn with
  | ind m ih7 =>
    intro L Gx Ax s st1 lg1 fw1 hm gL_0 gL_1 gL_2 hWx hFx hCx hAlx hBpx hBox ex_st1 ex_lg1 ex_fw1 fx_81 fx_89 fx_77 rx_s iv_0 iv_1 iv_2 iv_3 iv_4 iv_5 iv_6 iv_7 iv_8 iv_9
    have b_st1 : (-2147483648 : Int) ≤ st1 ∧ st1 ≤ 2147483647 := ex_st1 ▸ hWx.1 70
    have b_lg1 : (0 : Int) ≤ lg1 ∧ lg1 ≤ 1 := ex_lg1 ▸ hWx.1 79
    refine jx_ld (pc_q := 8) (l_q := L) (st_q := [.int (i32 (s))]) rfl (jl_iloadn gL_2) ?_
    refine jx_ld (pc_q := 9) (l_q := L) (st_q := [.ref 66, .int (i32 (s))]) rfl (jl_aloadn gL_0) ?_
    refine jr_get (pc_q := 12) (i := 40) (v := .ref 90) rfl rfl (by decide) rfl rfl ?_
    refine jx_ld (pc_q := 13) (l_q := L) (st_q := [.int (i32 (p)), .ref 90, .int (i32 (s))]) rfl (jl_iloadn gL_1) ?_
    have b830 : (-2147483648 : Int) ≤ T0 23 (p).toNat ∧ T0 23 (p).toNat ≤ 2147483647 := hWT.2 23 _
    refine jr_ldv (pc_q := 14) (i := 23) (m := 7000) (z := p) (y := T0 23 (p).toNat) rfl (by decide) rfl (by decide) (by omega) (by omega) rfl (show Ax 23 (p).toNat = T0 23 (p).toNat from (congrFun ((hFx.2 23 rfl).trans (p_0 23 rfl)) _)) ?_
    refine jx_ld (pc_q := 15) (l_q := L) (st_q := [.ref 66, .int (i32 (T0 23 (p).toNat)), .int (i32 (s))]) rfl (jl_aloadn gL_0) ?_
    refine jr_get (pc_q := 18) (i := 41) (v := .ref 91) rfl rfl (by decide) rfl rfl ?_
    refine jx_ld (pc_q := 19) (l_q := L) (st_q := [.int (i32 (p)), .ref 91, .int (i32 (T0 23 (p).toNat)), .int (i32 (s))]) rfl (jl_iloadn gL_1) ?_
    have b831 : (-2147483648 : Int) ≤ T0 24 (p).toNat ∧ T0 24 (p).toNat ≤ 2147483647 := hWT.2 24 _
    refine jr_ldv (pc_q := 20) (i := 24) (m := 7000) (z := p) (y := T0 24 (p).toNat) rfl (by decide) rfl (by decide) (by omega) (by omega) rfl (show Ax 24 (p).toNat = T0 24 (p).toNat from (congrFun ((hFx.2 24 rfl).trans (p_0 24 rfl)) _)) ?_
    refine jx_add (pc_q := 21) rfl rfl ?_
    refine jx_icmp_ge (pc_q := 24) (tg := 87) rfl rfl rfl (Int.le_trans (by decide : (-2147483648 : Int) ≤ -2147483648) rx_s.1) (Int.le_trans rx_s.2 (by decide : (2147483647 : Int) ≤ 2147483647)) (by omega) (by omega) (fun h832 => ?_) (fun h832 => ?_)
    · have _q := h832
      exact c_gen_s_at_87 (X := X) (k := k) (hN := hN) (d := d) (T0 := T0) (Q := Q) (F := F) (Sn := Sn) (Vs := Vs) (sb := sb) (pb := pb) (c0 := c0) (c1 := c1) (G := G) (A := A) (T := T) (p := p) (lo := lo) (hi := hi) (s0 := s0) (s1 := s1) (fr := fr) (z := z) (D := D) (bd := bd) (st := st) (lg := lg) (lb := lb) (nw := nw) (al := al) (fw := fw) (hd := hd) (hW := hW) (e_st := e_st) (e_lg := e_lg) (e_lb := e_lb) (e_nw := e_nw) (e_al := e_al) (e_fw := e_fw) (h_p := h_p) (p_0 := p_0) (p_1 := p_1) (p_2 := p_2) (p_3 := p_3) (p_4 := p_4) (p_5 := p_5) (p_6 := p_6) (p_7 := p_7) (p_8 := p_8) (p_9 := p_9) (p_10 := p_10) (p_11 := p_11) (p_12 := p_12) (p_13 := p_13) (p_14 := p_14) (p_15 := p_15) (p_16 := p_16) (p_17 := p_17) (p_18 := p_18) (p_19 := p_19) (p_20 := p_20) (p_21 := p_21) (p_22 := p_22) (p_23 := p_23) (p_24 := p_24) (p_25 := p_25) (p_26 := p_26) (p_27 := p_27) (p_28 := p_28) (p_29 := p_29) L Gx Ax (st1) (lg1) (fw1) gL_0 gL_1 hWx hFx hCx hAlx hBpx (Cd_mk (fun hC => Cd_ap hBox (by omega))) ((ex_st1)) ((ex_lg1)) ((ex_fw1)) ((fx_81)) ((fx_89)) ((fx_77)) (by omega) (by omega) (by omega) (by omega) (by omega) (iv_5) (iv_6) ((Cd_mk (fun hC => (gN_i (by omega) (Cd_ap iv_9 (by omega))))))
    · have _q := h832
      have hw7 := w7 (s).toNat (by omega) (by omega)
      refine jx_ld (pc_q := 25) (l_q := L) (st_q := [.ref 66]) rfl (jl_aloadn gL_0) ?_
      refine jx_ar (pc_q := 26) (st_q := [.int (i32 (4)), .ref 66]) rfl rfl rfl rfl ?_
      refine jx_ld (pc_q := 27) (l_q := L) (st_q := [.ref 66, .int (i32 (4)), .ref 66]) rfl (jl_aloadn gL_0) ?_
      refine jr_get (pc_q := 30) (i := 21) (v := .ref 74) rfl rfl (by decide) rfl rfl ?_
      refine jx_ld (pc_q := 31) (l_q := L) (st_q := [.int (i32 (s)), .ref 74, .int (i32 (4)), .ref 66]) rfl (jl_iloadn gL_2) ?_
      have b833 : (0 : Int) ≤ T0 7 (s).toNat ∧ T0 7 (s).toNat ≤ 14 := hWT.2 7 _
      refine jr_ldv (pc_q := 32) (i := 7) (m := 260) (z := s) (y := T0 7 (s).toNat) rfl (by decide) rfl (by decide) (by omega) (by omega) rfl (show Ax 7 (s).toNat = T0 7 (s).toNat from (congrFun ((hFx.2 7 rfl).trans (p_0 7 rfl)) _)) ?_
      refine jx_ar (pc_q := 33) (st_q := [.int (i32 (3)), .int (i32 (T0 7 (s).toNat)), .int (i32 (4)), .ref 66]) rfl rfl rfl rfl ?_
      refine jx_icmp_eq (pc_q := 36) (tg := 46) rfl rfl rfl (Int.le_trans (by decide : (-2147483648 : Int) ≤ 0) b833.1) (Int.le_trans b833.2 (by decide : (14 : Int) ≤ 2147483647)) (by decide) (by decide) (fun h834 => ?_) (fun h834 => ?_)
      · have _q := h834
        refine jx_ar (pc_q := 47) (st_q := [.int (i32 (-1)), .int (i32 (4)), .ref 66]) rfl rfl rfl rfl ?_
        refine jx_go (tg := 51) rfl rfl ?_
        refine jx_vr (pc_q := 54) (as := [.int (i32 (4)), .int (i32 (-1))]) (st := []) rfl rfl rfl rfl ⟨rfl, rfl, Nat.le_of_ble_eq_true rfl⟩ rfl rfl (c_emit (dd := d) (hd := by omega) (hW := hWx) (fn := 4) (v := -1) (st := st1) (e_st := show Gx 70 = st1 from (ex_st1)) (lg := lg1) (e_lg := show Gx 79 = lg1 from (ex_lg1))  (h_fn := ⟨(by decide), (by decide)⟩) (h_v := ⟨(by decide), (by decide)⟩)  (p_0 := by omega) (p_1 := by omega)) (fun o V_q hq => ?_)
        obtain ⟨G835, A836, st2_837, lg2_838, rfl, rfl, hW839, hF840, hQ841, e842, e843, p844, p845, p846, p847, p848, p849, -⟩ := hq
        have hF851 := Fr_tr hFx hF840 (Fr_sub (by decide)) (Fr_sub (by decide))
        have hC852 := Fx_tr hCx hQ841 (by omega)
        have hAl853 := Fx_f hAlx hF840 (by decide)
        have hBp854 := Fx_f hBpx hF840 (by decide)
        have sf855 := FA_fr (hF840.2 51 rfl) iv_5
        have sf856 := SA_fr (hF840.2 13 rfl) iv_6
        have bst2_837 : (-2147483648 : Int) ≤ st2_837 ∧ st2_837 ≤ 2147483647 := e842 ▸ hW839.1 70
        have blg2_838 : (0 : Int) ≤ lg2_838 ∧ lg2_838 ≤ 1 := e843 ▸ hW839.1 79
        refine .inl ⟨rfl, ?_⟩
        have sf857 : Cd (lg2_838 = 0 ∧ lb < 19999) (gN T0 A836 F (nw) (T0 23 (p).toNat) ((s - T0 23 (p).toNat).toNat) (st) (st1)) := Cd_mk (fun hC => gN_mv (Cg_fx (l0 := 0) (l1 := 0) hQ841 (Fx_f (w := 0 + 1) Fx_rf hF840 (by decide)) (by omega)) (by omega) (Cd_ap iv_9 (by omega)))
        have hBo858 : Cd (lg2_838 = 0 ∧ lb < 19999) (Fx [50] (lb + 1) A A836) := Cd_mk (fun hC => Fx_f (Cd_ap hBox (by omega)) hF840 (by decide))
        refine jx_ld (pc_q := 55) (l_q := L) (st_q := [.ref 66]) rfl (jl_aloadn gL_0) ?_
        refine jx_ar (pc_q := 56) (st_q := [.int (i32 (4)), .ref 66]) rfl rfl rfl rfl ?_
        refine jx_ld (pc_q := 57) (l_q := L) (st_q := [.ref 66, .int (i32 (4)), .ref 66]) rfl (jl_aloadn gL_0) ?_
        refine jr_get (pc_q := 60) (i := 22) (v := .ref 75) rfl rfl (by decide) rfl rfl ?_
        refine jx_ld (pc_q := 61) (l_q := L) (st_q := [.int (i32 (s)), .ref 75, .int (i32 (4)), .ref 66]) rfl (jl_iloadn gL_2) ?_
        have b859 : (-2147483648 : Int) ≤ T0 8 (s).toNat ∧ T0 8 (s).toNat ≤ 2147483647 := hWT.2 8 _
        refine jr_ldv (pc_q := 62) (i := 8) (m := 260) (z := s) (y := T0 8 (s).toNat) rfl (by decide) rfl (by decide) (by omega) (by omega) rfl (show A836 8 (s).toNat = T0 8 (s).toNat from (congrFun ((hF840.2 8 rfl).trans ((hFx.2 8 rfl).trans (p_0 8 rfl))) _)) ?_
        refine jx_vr (pc_q := 65) (as := [.int (i32 (4)), .int (i32 (T0 8 (s).toNat))]) (st := []) rfl rfl rfl rfl ⟨rfl, rfl, Nat.le_of_ble_eq_true rfl⟩ rfl rfl (c_emit (dd := d) (hd := by omega) (hW := hW839) (fn := 4) (v := T0 8 (s).toNat) (st := st2_837) (e_st := show G835 70 = st2_837 from (e842)) (lg := lg2_838) (e_lg := show G835 79 = lg2_838 from (e843))  (h_fn := ⟨(by decide), (by decide)⟩) (h_v := ⟨(Int.le_trans (by decide : (-2147483648 : Int) ≤ -2147483648) b859.1), (Int.le_trans b859.2 (by decide : (2147483647 : Int) ≤ 2147483647))⟩)  (p_0 := by omega) (p_1 := by omega)) (fun o V_q hq => ?_)
        obtain ⟨G860, A861, st2_862, lg2_863, rfl, rfl, hW864, hF865, hQ866, e867, e868, p869, p870, p871, p872, p873, p874, -⟩ := hq
        have hF876 := Fr_tr hF851 hF865 (Fr_sub (by decide)) (Fr_sub (by decide))
        have hC877 := Fx_tr hC852 hQ866 (by omega)
        have hAl878 := Fx_f hAl853 hF865 (by decide)
        have hBp879 := Fx_f hBp854 hF865 (by decide)
        have sf880 := FA_fr (hF865.2 51 rfl) sf855
        have sf881 := SA_fr (hF865.2 13 rfl) sf856
        have bst2_862 : (-2147483648 : Int) ≤ st2_862 ∧ st2_862 ≤ 2147483647 := e867 ▸ hW864.1 70
        have blg2_863 : (0 : Int) ≤ lg2_863 ∧ lg2_863 ≤ 1 := e868 ▸ hW864.1 79
        refine .inl ⟨rfl, ?_⟩
        have sf882 : Cd (lg2_863 = 0 ∧ lb < 19999) (gN T0 A861 F (nw) (T0 23 (p).toNat) ((s - T0 23 (p).toNat).toNat) (st) (st1)) := Cd_mk (fun hC => gN_mv (Cg_fx (l0 := 0) (l1 := 0) hQ866 (Fx_f (w := 0 + 1) Fx_rf hF865 (by decide)) (by omega)) (by omega) (Cd_ap sf857 (by omega)))
        have sf883 : Cd (lg2_863 = 0 ∧ lb < 19999) (ST A861 (st1) (st2_837) (4) (-1)) := Cd_mk (fun hC => ST_mv (Cg_fx (l0 := 0) (l1 := 0) hQ866 (Fx_f (w := 0 + 1) Fx_rf hF865 (by decide)) (by omega)) (by omega) (Cd_ap p849 (by omega)))
        have hBo884 : Cd (lg2_863 = 0 ∧ lb < 19999) (Fx [50] (lb + 1) A A861) := Cd_mk (fun hC => Fx_f (Cd_ap hBo858 (by omega)) hF865 (by decide))
        refine jx_ld (pc_q := 66) (l_q := L) (st_q := [.ref 66]) rfl (jl_aloadn gL_0) ?_
        refine jx_ar (pc_q := 67) (st_q := [.int (i32 (1)), .ref 66]) rfl rfl rfl rfl ?_
        refine jx_ld (pc_q := 68) (l_q := L) (st_q := [.ref 66, .int (i32 (1)), .ref 66]) rfl (jl_aloadn gL_0) ?_
        refine jx_ld (pc_q := 69) (l_q := L) (st_q := [.int (i32 (s)), .ref 66, .int (i32 (1)), .ref 66]) rfl (jl_iloadn gL_2) ?_
        refine jx_vr (pc_q := 72) (as := [.int (i32 (s))]) (st := [.int (i32 (1)), .ref 66]) rfl rfl rfl rfl ⟨rfl, rfl, Nat.le_of_ble_eq_true rfl⟩ rfl rfl (c_wordOf (dd := d) (hd := by omega) (hW := hW864) (s := s) (nw := nw) (e_nw := show G860 81 = nw from ((hF865.1 81 rfl).trans ((hF840.1 81 rfl).trans (fx_81))))  (h_s := ⟨(Int.le_trans (by decide : (-2147483648 : Int) ≤ -2147483648) rx_s.1), (Int.le_trans rx_s.2 (by decide : (2147483647 : Int) ≤ 2147483647))⟩)  (p_0 := (TA_fr hF876 (by decide) p_0)) (p_1 := sf880) (p_2 := sf881) (p_3 := hVW1) (p_4 := by omega) (p_5 := by omega) (p_6 := by omega) (p_7 := by omega) (p_8 := (show (Vd Vs s0 (s0 + T0 24 (p).toNat)) (s).toNat from .inr ⟨by omega, by omega⟩)) (p_9 := by omega)) (fun o V_q hq => ?_)
        obtain ⟨r885, rfl, rfl, b886, p887, -⟩ := hq
        refine .inr ⟨_, rfl, ?_⟩
        refine jx_vr (pc_q := 75) (as := [.int (i32 (1)), .int (i32 (r885))]) (st := []) rfl rfl rfl rfl ⟨rfl, rfl, Nat.le_of_ble_eq_true rfl⟩ rfl rfl (c_emit (dd := d) (hd := by omega) (hW := hW864) (fn := 1) (v := r885) (st := st2_862) (e_st := show G860 70 = st2_862 from (e867)) (lg := lg2_863) (e_lg := show G860 79 = lg2_863 from (e868))  (h_fn := ⟨(by decide), (by decide)⟩) (h_v := ⟨(Int.le_trans (by decide : (-2147483648 : Int) ≤ -2147483648) b886.1), (Int.le_trans b886.2 (by decide : (2147483647 : Int) ≤ 2147483647))⟩)  (p_0 := by omega) (p_1 := by omega)) (fun o V_q hq => ?_)
        obtain ⟨G889, A890, st2_891, lg2_892, rfl, rfl, hW893, hF894, hQ895, e896, e897, p898, p899, p900, p901, p902, p903, -⟩ := hq
        have hF905 := Fr_tr hF876 hF894 (Fr_sub (by decide)) (Fr_sub (by decide))
        have hC906 := Fx_tr hC877 hQ895 (by omega)
        have hAl907 := Fx_f hAl878 hF894 (by decide)
        have hBp908 := Fx_f hBp879 hF894 (by decide)
        have sf909 := FA_fr (hF894.2 51 rfl) sf880
        have sf910 := SA_fr (hF894.2 13 rfl) sf881
        have bst2_891 : (-2147483648 : Int) ≤ st2_891 ∧ st2_891 ≤ 2147483647 := e896 ▸ hW893.1 70
        have blg2_892 : (0 : Int) ≤ lg2_892 ∧ lg2_892 ≤ 1 := e897 ▸ hW893.1 79
        refine .inl ⟨rfl, ?_⟩
        have sf911 : Cd (lg2_892 = 0 ∧ lb < 19999) (gN T0 A890 F (nw) (T0 23 (p).toNat) ((s - T0 23 (p).toNat).toNat) (st) (st1)) := Cd_mk (fun hC => gN_mv (Cg_fx (l0 := 0) (l1 := 0) hQ895 (Fx_f (w := 0 + 1) Fx_rf hF894 (by decide)) (by omega)) (by omega) (Cd_ap sf882 (by omega)))
        have sf912 : Cd (lg2_892 = 0 ∧ lb < 19999) (ST A890 (st1) (st2_837) (4) (-1)) := Cd_mk (fun hC => ST_mv (Cg_fx (l0 := 0) (l1 := 0) hQ895 (Fx_f (w := 0 + 1) Fx_rf hF894 (by decide)) (by omega)) (by omega) (Cd_ap sf883 (by omega)))
        have sf913 : Cd (lg2_892 = 0 ∧ lb < 19999) (ST A890 (st2_837) (st2_862) (4) (T0 8 (s).toNat)) := Cd_mk (fun hC => ST_mv (Cg_fx (l0 := 0) (l1 := 0) hQ895 (Fx_f (w := 0 + 1) Fx_rf hF894 (by decide)) (by omega)) (by omega) (Cd_ap p874 (by omega)))
        have hBo914 : Cd (lg2_892 = 0 ∧ lb < 19999) (Fx [50] (lb + 1) A A890) := Cd_mk (fun hC => Fx_f (Cd_ap hBo884 (by omega)) hF894 (by decide))
        refine jx_ld (pc_q := 76) (l_q := L) (st_q := [.ref 66]) rfl (jl_aloadn gL_0) ?_
        refine jx_ar (pc_q := 78) (st_q := [.int (i32 (14)), .ref 66]) rfl rfl rfl rfl ?_
        refine jx_vr (pc_q := 81) (as := [.int (i32 (14))]) (st := []) rfl rfl rfl rfl ⟨rfl, rfl, Nat.le_of_ble_eq_true rfl⟩ rfl rfl (c_op (dd := d) (hd := by omega) (hW := hW893) (oo := 14) (st := st2_891) (e_st := show G889 70 = st2_891 from (e896)) (lg := lg2_892) (e_lg := show G889 79 = lg2_892 from (e897))  (h_oo := ⟨(by decide), (by decide)⟩)  (p_0 := by omega) (p_1 := by omega)) (fun o V_q hq => ?_)
        obtain ⟨G915, A916, st2_917, lg2_918, rfl, rfl, hW919, hF920, hQ921, e922, e923, p924, p925, p926, p927, p928, p929, -⟩ := hq
        have hF931 := Fr_tr hF905 hF920 (Fr_sub (by decide)) (Fr_sub (by decide))
        have hC932 := Fx_tr hC906 hQ921 (by omega)
        have hAl933 := Fx_f hAl907 hF920 (by decide)
        have hBp934 := Fx_f hBp908 hF920 (by decide)
        have sf935 := FA_fr (hF920.2 51 rfl) sf909
        have sf936 := SA_fr (hF920.2 13 rfl) sf910
        have bst2_917 : (-2147483648 : Int) ≤ st2_917 ∧ st2_917 ≤ 2147483647 := e922 ▸ hW919.1 70
        have blg2_918 : (0 : Int) ≤ lg2_918 ∧ lg2_918 ≤ 1 := e923 ▸ hW919.1 79
        refine .inl ⟨rfl, ?_⟩
        have sf937 : Cd (lg2_918 = 0 ∧ lb < 19999) (gN T0 A916 F (nw) (T0 23 (p).toNat) ((s - T0 23 (p).toNat).toNat) (st) (st1)) := Cd_mk (fun hC => gN_mv (Cg_fx (l0 := 0) (l1 := 0) hQ921 (Fx_f (w := 0 + 1) Fx_rf hF920 (by decide)) (by omega)) (by omega) (Cd_ap sf911 (by omega)))
        have sf938 : Cd (lg2_918 = 0 ∧ lb < 19999) (ST A916 (st1) (st2_837) (4) (-1)) := Cd_mk (fun hC => ST_mv (Cg_fx (l0 := 0) (l1 := 0) hQ921 (Fx_f (w := 0 + 1) Fx_rf hF920 (by decide)) (by omega)) (by omega) (Cd_ap sf912 (by omega)))
        have sf939 : Cd (lg2_918 = 0 ∧ lb < 19999) (ST A916 (st2_837) (st2_862) (4) (T0 8 (s).toNat)) := Cd_mk (fun hC => ST_mv (Cg_fx (l0 := 0) (l1 := 0) hQ921 (Fx_f (w := 0 + 1) Fx_rf hF920 (by decide)) (by omega)) (by omega) (Cd_ap sf913 (by omega)))
        have sf940 : Cd (lg2_918 = 0 ∧ lb < 19999) (ST A916 (st2_862) (st2_891) (1) (r885)) := Cd_mk (fun hC => ST_mv (Cg_fx (l0 := 0) (l1 := 0) hQ921 (Fx_f (w := 0 + 1) Fx_rf hF920 (by decide)) (by omega)) (by omega) (Cd_ap p903 (by omega)))
        have hBo941 : Cd (lg2_918 = 0 ∧ lb < 19999) (Fx [50] (lb + 1) A A916) := Cd_mk (fun hC => Fx_f (Cd_ap hBo914 (by omega)) hF920 (by decide))
        refine jx_inc (pc_q := 84) (l_q := jSto1 L 2 (.int (i32 ((s + (1)))))) (x := s) rfl gL_2 (by decide) rfl rfl ?_
        obtain ⟨L942, eL942⟩ : ∃ q, q = jSto1 L 2 (.int (i32 ((s + (1))))) := ⟨_, rfl⟩
        rw [← eL942]
        have gL942_0 : jGet L942 0 = some (.ref 66) := eL942 ▸ jg_ne (by decide) gL_0 rfl
        have gL942_1 : jGet L942 1 = some (.int (i32 (p))) := eL942 ▸ jg_ne (by decide) gL_1 rfl
        have gL942_2 : jGet L942 2 = some (.int (i32 ((s + (1))))) := eL942 ▸ jg_eq
        refine jx_go (tg := 7) rfl rfl ?_
        exact ih7 _ (by omega) L942 G915 A916 ((s + (1))) (st2_917) (lg2_918) (fw1) rfl gL942_0 gL942_1 gL942_2 hW919 hF931 hC932 hAl933 hBp934 (Cd_mk (fun hC => Cd_ap hBo941 (by omega))) ((e922)) ((e923)) ((congrFun ((hF920.2 51 rfl).trans ((hF894.2 51 rfl).trans ((hF865.2 51 rfl).trans (hF840.2 51 rfl)))) _).trans (ex_fw1)) (((hF920.1 81 rfl).trans ((hF894.1 81 rfl).trans ((hF865.1 81 rfl).trans ((hF840.1 81 rfl).trans (fx_81)))))) (((hF920.1 89 rfl).trans ((hF894.1 89 rfl).trans ((hF865.1 89 rfl).trans ((hF840.1 89 rfl).trans (fx_89)))))) (((hF920.1 77 rfl).trans ((hF894.1 77 rfl).trans ((hF865.1 77 rfl).trans ((hF840.1 77 rfl).trans (fx_77)))))) (by omega) (by omega) (by omega) (by omega) (by omega) (by omega) (sf935) (sf936) (by omega) (by omega) ((Cd_mk (fun hC => (gN_nx (by omega) (Cd_ap sf937 (by omega)) (Cd_ap sf938 (by omega)) (Cd_ap sf939 (by omega)) (Cd_ap sf940 (by omega)) (Cd_ap p929 (by omega)) (by first | exact (if_pos (by omega)).symm | exact (if_neg (by omega)).symm) rfl (by omega)))))
      · have _q := h834
        refine jx_ld (pc_q := 37) (l_q := L) (st_q := [.ref 66, .int (i32 (4)), .ref 66]) rfl (jl_aloadn gL_0) ?_
        refine jr_get (pc_q := 40) (i := 21) (v := .ref 74) rfl rfl (by decide) rfl rfl ?_
        refine jx_ld (pc_q := 41) (l_q := L) (st_q := [.int (i32 (s)), .ref 74, .int (i32 (4)), .ref 66]) rfl (jl_iloadn gL_2) ?_
        refine jr_ldv (pc_q := 42) (i := 7) (m := 260) (z := s) (y := T0 7 (s).toNat) rfl (by decide) rfl (by decide) (by omega) (by omega) rfl (show Ax 7 (s).toNat = T0 7 (s).toNat from (congrFun ((hFx.2 7 rfl).trans (p_0 7 rfl)) _)) ?_
        refine jx_ar (pc_q := 43) (st_q := [.int (i32 (4)), .int (i32 (T0 7 (s).toNat)), .int (i32 (4)), .ref 66]) rfl rfl rfl rfl ?_
        refine jx_icmp_ne (pc_q := 46) (tg := 50) rfl rfl rfl (Int.le_trans (by decide : (-2147483648 : Int) ≤ 0) b833.1) (Int.le_trans b833.2 (by decide : (14 : Int) ≤ 2147483647)) (by decide) (by decide) (fun h943 => ?_) (fun h943 => ?_)
        · have _q := h943
          refine jx_ar (pc_q := 51) (st_q := [.int (i32 (0)), .int (i32 (4)), .ref 66]) rfl rfl rfl rfl ?_
          refine jx_vr (pc_q := 54) (as := [.int (i32 (4)), .int (i32 (0))]) (st := []) rfl rfl rfl rfl ⟨rfl, rfl, Nat.le_of_ble_eq_true rfl⟩ rfl rfl (c_emit (dd := d) (hd := by omega) (hW := hWx) (fn := 4) (v := 0) (st := st1) (e_st := show Gx 70 = st1 from (ex_st1)) (lg := lg1) (e_lg := show Gx 79 = lg1 from (ex_lg1))  (h_fn := ⟨(by decide), (by decide)⟩) (h_v := ⟨(by decide), (by decide)⟩)  (p_0 := by omega) (p_1 := by omega)) (fun o V_q hq => ?_)
          obtain ⟨G944, A945, st2_946, lg2_947, rfl, rfl, hW948, hF949, hQ950, e951, e952, p953, p954, p955, p956, p957, p958, -⟩ := hq
          have hF960 := Fr_tr hFx hF949 (Fr_sub (by decide)) (Fr_sub (by decide))
          have hC961 := Fx_tr hCx hQ950 (by omega)
          have hAl962 := Fx_f hAlx hF949 (by decide)
          have hBp963 := Fx_f hBpx hF949 (by decide)
          have sf964 := FA_fr (hF949.2 51 rfl) iv_5
          have sf965 := SA_fr (hF949.2 13 rfl) iv_6
          have bst2_946 : (-2147483648 : Int) ≤ st2_946 ∧ st2_946 ≤ 2147483647 := e951 ▸ hW948.1 70
          have blg2_947 : (0 : Int) ≤ lg2_947 ∧ lg2_947 ≤ 1 := e952 ▸ hW948.1 79
          refine .inl ⟨rfl, ?_⟩
          have sf966 : Cd (lg2_947 = 0 ∧ lb < 19999) (gN T0 A945 F (nw) (T0 23 (p).toNat) ((s - T0 23 (p).toNat).toNat) (st) (st1)) := Cd_mk (fun hC => gN_mv (Cg_fx (l0 := 0) (l1 := 0) hQ950 (Fx_f (w := 0 + 1) Fx_rf hF949 (by decide)) (by omega)) (by omega) (Cd_ap iv_9 (by omega)))
          have hBo967 : Cd (lg2_947 = 0 ∧ lb < 19999) (Fx [50] (lb + 1) A A945) := Cd_mk (fun hC => Fx_f (Cd_ap hBox (by omega)) hF949 (by decide))
          refine jx_ld (pc_q := 55) (l_q := L) (st_q := [.ref 66]) rfl (jl_aloadn gL_0) ?_
          refine jx_ar (pc_q := 56) (st_q := [.int (i32 (4)), .ref 66]) rfl rfl rfl rfl ?_
          refine jx_ld (pc_q := 57) (l_q := L) (st_q := [.ref 66, .int (i32 (4)), .ref 66]) rfl (jl_aloadn gL_0) ?_
          refine jr_get (pc_q := 60) (i := 22) (v := .ref 75) rfl rfl (by decide) rfl rfl ?_
          refine jx_ld (pc_q := 61) (l_q := L) (st_q := [.int (i32 (s)), .ref 75, .int (i32 (4)), .ref 66]) rfl (jl_iloadn gL_2) ?_
          have b968 : (-2147483648 : Int) ≤ T0 8 (s).toNat ∧ T0 8 (s).toNat ≤ 2147483647 := hWT.2 8 _
          refine jr_ldv (pc_q := 62) (i := 8) (m := 260) (z := s) (y := T0 8 (s).toNat) rfl (by decide) rfl (by decide) (by omega) (by omega) rfl (show A945 8 (s).toNat = T0 8 (s).toNat from (congrFun ((hF949.2 8 rfl).trans ((hFx.2 8 rfl).trans (p_0 8 rfl))) _)) ?_
          refine jx_vr (pc_q := 65) (as := [.int (i32 (4)), .int (i32 (T0 8 (s).toNat))]) (st := []) rfl rfl rfl rfl ⟨rfl, rfl, Nat.le_of_ble_eq_true rfl⟩ rfl rfl (c_emit (dd := d) (hd := by omega) (hW := hW948) (fn := 4) (v := T0 8 (s).toNat) (st := st2_946) (e_st := show G944 70 = st2_946 from (e951)) (lg := lg2_947) (e_lg := show G944 79 = lg2_947 from (e952))  (h_fn := ⟨(by decide), (by decide)⟩) (h_v := ⟨(Int.le_trans (by decide : (-2147483648 : Int) ≤ -2147483648) b968.1), (Int.le_trans b968.2 (by decide : (2147483647 : Int) ≤ 2147483647))⟩)  (p_0 := by omega) (p_1 := by omega)) (fun o V_q hq => ?_)
          obtain ⟨G969, A970, st2_971, lg2_972, rfl, rfl, hW973, hF974, hQ975, e976, e977, p978, p979, p980, p981, p982, p983, -⟩ := hq
          have hF985 := Fr_tr hF960 hF974 (Fr_sub (by decide)) (Fr_sub (by decide))
          have hC986 := Fx_tr hC961 hQ975 (by omega)
          have hAl987 := Fx_f hAl962 hF974 (by decide)
          have hBp988 := Fx_f hBp963 hF974 (by decide)
          have sf989 := FA_fr (hF974.2 51 rfl) sf964
          have sf990 := SA_fr (hF974.2 13 rfl) sf965
          have bst2_971 : (-2147483648 : Int) ≤ st2_971 ∧ st2_971 ≤ 2147483647 := e976 ▸ hW973.1 70
          have blg2_972 : (0 : Int) ≤ lg2_972 ∧ lg2_972 ≤ 1 := e977 ▸ hW973.1 79
          refine .inl ⟨rfl, ?_⟩
          have sf991 : Cd (lg2_972 = 0 ∧ lb < 19999) (gN T0 A970 F (nw) (T0 23 (p).toNat) ((s - T0 23 (p).toNat).toNat) (st) (st1)) := Cd_mk (fun hC => gN_mv (Cg_fx (l0 := 0) (l1 := 0) hQ975 (Fx_f (w := 0 + 1) Fx_rf hF974 (by decide)) (by omega)) (by omega) (Cd_ap sf966 (by omega)))
          have sf992 : Cd (lg2_972 = 0 ∧ lb < 19999) (ST A970 (st1) (st2_946) (4) (0)) := Cd_mk (fun hC => ST_mv (Cg_fx (l0 := 0) (l1 := 0) hQ975 (Fx_f (w := 0 + 1) Fx_rf hF974 (by decide)) (by omega)) (by omega) (Cd_ap p958 (by omega)))
          have hBo993 : Cd (lg2_972 = 0 ∧ lb < 19999) (Fx [50] (lb + 1) A A970) := Cd_mk (fun hC => Fx_f (Cd_ap hBo967 (by omega)) hF974 (by decide))
          refine jx_ld (pc_q := 66) (l_q := L) (st_q := [.ref 66]) rfl (jl_aloadn gL_0) ?_
          refine jx_ar (pc_q := 67) (st_q := [.int (i32 (1)), .ref 66]) rfl rfl rfl rfl ?_
          refine jx_ld (pc_q := 68) (l_q := L) (st_q := [.ref 66, .int (i32 (1)), .ref 66]) rfl (jl_aloadn gL_0) ?_
          refine jx_ld (pc_q := 69) (l_q := L) (st_q := [.int (i32 (s)), .ref 66, .int (i32 (1)), .ref 66]) rfl (jl_iloadn gL_2) ?_
          refine jx_vr (pc_q := 72) (as := [.int (i32 (s))]) (st := [.int (i32 (1)), .ref 66]) rfl rfl rfl rfl ⟨rfl, rfl, Nat.le_of_ble_eq_true rfl⟩ rfl rfl (c_wordOf (dd := d) (hd := by omega) (hW := hW973) (s := s) (nw := nw) (e_nw := show G969 81 = nw from ((hF974.1 81 rfl).trans ((hF949.1 81 rfl).trans (fx_81))))  (h_s := ⟨(Int.le_trans (by decide : (-2147483648 : Int) ≤ -2147483648) rx_s.1), (Int.le_trans rx_s.2 (by decide : (2147483647 : Int) ≤ 2147483647))⟩)  (p_0 := (TA_fr hF985 (by decide) p_0)) (p_1 := sf989) (p_2 := sf990) (p_3 := hVW1) (p_4 := by omega) (p_5 := by omega) (p_6 := by omega) (p_7 := by omega) (p_8 := (show (Vd Vs s0 (s0 + T0 24 (p).toNat)) (s).toNat from .inr ⟨by omega, by omega⟩)) (p_9 := by omega)) (fun o V_q hq => ?_)
          obtain ⟨r994, rfl, rfl, b995, p996, -⟩ := hq
          refine .inr ⟨_, rfl, ?_⟩
          refine jx_vr (pc_q := 75) (as := [.int (i32 (1)), .int (i32 (r994))]) (st := []) rfl rfl rfl rfl ⟨rfl, rfl, Nat.le_of_ble_eq_true rfl⟩ rfl rfl (c_emit (dd := d) (hd := by omega) (hW := hW973) (fn := 1) (v := r994) (st := st2_971) (e_st := show G969 70 = st2_971 from (e976)) (lg := lg2_972) (e_lg := show G969 79 = lg2_972 from (e977))  (h_fn := ⟨(by decide), (by decide)⟩) (h_v := ⟨(Int.le_trans (by decide : (-2147483648 : Int) ≤ -2147483648) b995.1), (Int.le_trans b995.2 (by decide : (2147483647 : Int) ≤ 2147483647))⟩)  (p_0 := by omega) (p_1 := by omega)) (fun o V_q hq => ?_)
          obtain ⟨G998, A999, st2_1000, lg2_1001, rfl, rfl, hW1002, hF1003, hQ1004, e1005, e1006, p1007, p1008, p1009, p1010, p1011, p1012, -⟩ := hq
          have hF1014 := Fr_tr hF985 hF1003 (Fr_sub (by decide)) (Fr_sub (by decide))
          have hC1015 := Fx_tr hC986 hQ1004 (by omega)
          have hAl1016 := Fx_f hAl987 hF1003 (by decide)
          have hBp1017 := Fx_f hBp988 hF1003 (by decide)
          have sf1018 := FA_fr (hF1003.2 51 rfl) sf989
          have sf1019 := SA_fr (hF1003.2 13 rfl) sf990
          have bst2_1000 : (-2147483648 : Int) ≤ st2_1000 ∧ st2_1000 ≤ 2147483647 := e1005 ▸ hW1002.1 70
          have blg2_1001 : (0 : Int) ≤ lg2_1001 ∧ lg2_1001 ≤ 1 := e1006 ▸ hW1002.1 79
          refine .inl ⟨rfl, ?_⟩
          have sf1020 : Cd (lg2_1001 = 0 ∧ lb < 19999) (gN T0 A999 F (nw) (T0 23 (p).toNat) ((s - T0 23 (p).toNat).toNat) (st) (st1)) := Cd_mk (fun hC => gN_mv (Cg_fx (l0 := 0) (l1 := 0) hQ1004 (Fx_f (w := 0 + 1) Fx_rf hF1003 (by decide)) (by omega)) (by omega) (Cd_ap sf991 (by omega)))
          have sf1021 : Cd (lg2_1001 = 0 ∧ lb < 19999) (ST A999 (st1) (st2_946) (4) (0)) := Cd_mk (fun hC => ST_mv (Cg_fx (l0 := 0) (l1 := 0) hQ1004 (Fx_f (w := 0 + 1) Fx_rf hF1003 (by decide)) (by omega)) (by omega) (Cd_ap sf992 (by omega)))
          have sf1022 : Cd (lg2_1001 = 0 ∧ lb < 19999) (ST A999 (st2_946) (st2_971) (4) (T0 8 (s).toNat)) := Cd_mk (fun hC => ST_mv (Cg_fx (l0 := 0) (l1 := 0) hQ1004 (Fx_f (w := 0 + 1) Fx_rf hF1003 (by decide)) (by omega)) (by omega) (Cd_ap p983 (by omega)))
          have hBo1023 : Cd (lg2_1001 = 0 ∧ lb < 19999) (Fx [50] (lb + 1) A A999) := Cd_mk (fun hC => Fx_f (Cd_ap hBo993 (by omega)) hF1003 (by decide))
          refine jx_ld (pc_q := 76) (l_q := L) (st_q := [.ref 66]) rfl (jl_aloadn gL_0) ?_
          refine jx_ar (pc_q := 78) (st_q := [.int (i32 (14)), .ref 66]) rfl rfl rfl rfl ?_
          refine jx_vr (pc_q := 81) (as := [.int (i32 (14))]) (st := []) rfl rfl rfl rfl ⟨rfl, rfl, Nat.le_of_ble_eq_true rfl⟩ rfl rfl (c_op (dd := d) (hd := by omega) (hW := hW1002) (oo := 14) (st := st2_1000) (e_st := show G998 70 = st2_1000 from (e1005)) (lg := lg2_1001) (e_lg := show G998 79 = lg2_1001 from (e1006))  (h_oo := ⟨(by decide), (by decide)⟩)  (p_0 := by omega) (p_1 := by omega)) (fun o V_q hq => ?_)
          obtain ⟨G1024, A1025, st2_1026, lg2_1027, rfl, rfl, hW1028, hF1029, hQ1030, e1031, e1032, p1033, p1034, p1035, p1036, p1037, p1038, -⟩ := hq
          have hF1040 := Fr_tr hF1014 hF1029 (Fr_sub (by decide)) (Fr_sub (by decide))
          have hC1041 := Fx_tr hC1015 hQ1030 (by omega)
          have hAl1042 := Fx_f hAl1016 hF1029 (by decide)
          have hBp1043 := Fx_f hBp1017 hF1029 (by decide)
          have sf1044 := FA_fr (hF1029.2 51 rfl) sf1018
          have sf1045 := SA_fr (hF1029.2 13 rfl) sf1019
          have bst2_1026 : (-2147483648 : Int) ≤ st2_1026 ∧ st2_1026 ≤ 2147483647 := e1031 ▸ hW1028.1 70
          have blg2_1027 : (0 : Int) ≤ lg2_1027 ∧ lg2_1027 ≤ 1 := e1032 ▸ hW1028.1 79
          refine .inl ⟨rfl, ?_⟩
          have sf1046 : Cd (lg2_1027 = 0 ∧ lb < 19999) (gN T0 A1025 F (nw) (T0 23 (p).toNat) ((s - T0 23 (p).toNat).toNat) (st) (st1)) := Cd_mk (fun hC => gN_mv (Cg_fx (l0 := 0) (l1 := 0) hQ1030 (Fx_f (w := 0 + 1) Fx_rf hF1029 (by decide)) (by omega)) (by omega) (Cd_ap sf1020 (by omega)))
          have sf1047 : Cd (lg2_1027 = 0 ∧ lb < 19999) (ST A1025 (st1) (st2_946) (4) (0)) := Cd_mk (fun hC => ST_mv (Cg_fx (l0 := 0) (l1 := 0) hQ1030 (Fx_f (w := 0 + 1) Fx_rf hF1029 (by decide)) (by omega)) (by omega) (Cd_ap sf1021 (by omega)))
          have sf1048 : Cd (lg2_1027 = 0 ∧ lb < 19999) (ST A1025 (st2_946) (st2_971) (4) (T0 8 (s).toNat)) := Cd_mk (fun hC => ST_mv (Cg_fx (l0 := 0) (l1 := 0) hQ1030 (Fx_f (w := 0 + 1) Fx_rf hF1029 (by decide)) (by omega)) (by omega) (Cd_ap sf1022 (by omega)))
          have sf1049 : Cd (lg2_1027 = 0 ∧ lb < 19999) (ST A1025 (st2_971) (st2_1000) (1) (r994)) := Cd_mk (fun hC => ST_mv (Cg_fx (l0 := 0) (l1 := 0) hQ1030 (Fx_f (w := 0 + 1) Fx_rf hF1029 (by decide)) (by omega)) (by omega) (Cd_ap p1012 (by omega)))
          have hBo1050 : Cd (lg2_1027 = 0 ∧ lb < 19999) (Fx [50] (lb + 1) A A1025) := Cd_mk (fun hC => Fx_f (Cd_ap hBo1023 (by omega)) hF1029 (by decide))
          refine jx_inc (pc_q := 84) (l_q := jSto1 L 2 (.int (i32 ((s + (1)))))) (x := s) rfl gL_2 (by decide) rfl rfl ?_
          obtain ⟨L1051, eL1051⟩ : ∃ q, q = jSto1 L 2 (.int (i32 ((s + (1))))) := ⟨_, rfl⟩
          rw [← eL1051]
          have gL1051_0 : jGet L1051 0 = some (.ref 66) := eL1051 ▸ jg_ne (by decide) gL_0 rfl
          have gL1051_1 : jGet L1051 1 = some (.int (i32 (p))) := eL1051 ▸ jg_ne (by decide) gL_1 rfl
          have gL1051_2 : jGet L1051 2 = some (.int (i32 ((s + (1))))) := eL1051 ▸ jg_eq
          refine jx_go (tg := 7) rfl rfl ?_
          exact ih7 _ (by omega) L1051 G1024 A1025 ((s + (1))) (st2_1026) (lg2_1027) (fw1) rfl gL1051_0 gL1051_1 gL1051_2 hW1028 hF1040 hC1041 hAl1042 hBp1043 (Cd_mk (fun hC => Cd_ap hBo1050 (by omega))) ((e1031)) ((e1032)) ((congrFun ((hF1029.2 51 rfl).trans ((hF1003.2 51 rfl).trans ((hF974.2 51 rfl).trans (hF949.2 51 rfl)))) _).trans (ex_fw1)) (((hF1029.1 81 rfl).trans ((hF1003.1 81 rfl).trans ((hF974.1 81 rfl).trans ((hF949.1 81 rfl).trans (fx_81)))))) (((hF1029.1 89 rfl).trans ((hF1003.1 89 rfl).trans ((hF974.1 89 rfl).trans ((hF949.1 89 rfl).trans (fx_89)))))) (((hF1029.1 77 rfl).trans ((hF1003.1 77 rfl).trans ((hF974.1 77 rfl).trans ((hF949.1 77 rfl).trans (fx_77)))))) (by omega) (by omega) (by omega) (by omega) (by omega) (by omega) (sf1044) (sf1045) (by omega) (by omega) ((Cd_mk (fun hC => (gN_nx (by omega) (Cd_ap sf1046 (by omega)) (Cd_ap sf1047 (by omega)) (Cd_ap sf1048 (by omega)) (Cd_ap sf1049 (by omega)) (Cd_ap p1038 (by omega)) (by first | exact (if_pos (by omega)).symm | exact (if_neg (by omega)).symm) rfl (by omega)))))
        · have _q := h943
          refine jx_ar (pc_q := 47) (st_q := [.int (i32 (-1)), .int (i32 (4)), .ref 66]) rfl rfl rfl rfl ?_
          refine jx_go (tg := 51) rfl rfl ?_
          refine jx_vr (pc_q := 54) (as := [.int (i32 (4)), .int (i32 (-1))]) (st := []) rfl rfl rfl rfl ⟨rfl, rfl, Nat.le_of_ble_eq_true rfl⟩ rfl rfl (c_emit (dd := d) (hd := by omega) (hW := hWx) (fn := 4) (v := -1) (st := st1) (e_st := show Gx 70 = st1 from (ex_st1)) (lg := lg1) (e_lg := show Gx 79 = lg1 from (ex_lg1))  (h_fn := ⟨(by decide), (by decide)⟩) (h_v := ⟨(by decide), (by decide)⟩)  (p_0 := by omega) (p_1 := by omega)) (fun o V_q hq => ?_)
          obtain ⟨G1052, A1053, st2_1054, lg2_1055, rfl, rfl, hW1056, hF1057, hQ1058, e1059, e1060, p1061, p1062, p1063, p1064, p1065, p1066, -⟩ := hq
          have hF1068 := Fr_tr hFx hF1057 (Fr_sub (by decide)) (Fr_sub (by decide))
          have hC1069 := Fx_tr hCx hQ1058 (by omega)
          have hAl1070 := Fx_f hAlx hF1057 (by decide)
          have hBp1071 := Fx_f hBpx hF1057 (by decide)
          have sf1072 := FA_fr (hF1057.2 51 rfl) iv_5
          have sf1073 := SA_fr (hF1057.2 13 rfl) iv_6
          have bst2_1054 : (-2147483648 : Int) ≤ st2_1054 ∧ st2_1054 ≤ 2147483647 := e1059 ▸ hW1056.1 70
          have blg2_1055 : (0 : Int) ≤ lg2_1055 ∧ lg2_1055 ≤ 1 := e1060 ▸ hW1056.1 79
          refine .inl ⟨rfl, ?_⟩
          have sf1074 : Cd (lg2_1055 = 0 ∧ lb < 19999) (gN T0 A1053 F (nw) (T0 23 (p).toNat) ((s - T0 23 (p).toNat).toNat) (st) (st1)) := Cd_mk (fun hC => gN_mv (Cg_fx (l0 := 0) (l1 := 0) hQ1058 (Fx_f (w := 0 + 1) Fx_rf hF1057 (by decide)) (by omega)) (by omega) (Cd_ap iv_9 (by omega)))
          have hBo1075 : Cd (lg2_1055 = 0 ∧ lb < 19999) (Fx [50] (lb + 1) A A1053) := Cd_mk (fun hC => Fx_f (Cd_ap hBox (by omega)) hF1057 (by decide))
          refine jx_ld (pc_q := 55) (l_q := L) (st_q := [.ref 66]) rfl (jl_aloadn gL_0) ?_
          refine jx_ar (pc_q := 56) (st_q := [.int (i32 (4)), .ref 66]) rfl rfl rfl rfl ?_
          refine jx_ld (pc_q := 57) (l_q := L) (st_q := [.ref 66, .int (i32 (4)), .ref 66]) rfl (jl_aloadn gL_0) ?_
          refine jr_get (pc_q := 60) (i := 22) (v := .ref 75) rfl rfl (by decide) rfl rfl ?_
          refine jx_ld (pc_q := 61) (l_q := L) (st_q := [.int (i32 (s)), .ref 75, .int (i32 (4)), .ref 66]) rfl (jl_iloadn gL_2) ?_
          have b1076 : (-2147483648 : Int) ≤ T0 8 (s).toNat ∧ T0 8 (s).toNat ≤ 2147483647 := hWT.2 8 _
          refine jr_ldv (pc_q := 62) (i := 8) (m := 260) (z := s) (y := T0 8 (s).toNat) rfl (by decide) rfl (by decide) (by omega) (by omega) rfl (show A1053 8 (s).toNat = T0 8 (s).toNat from (congrFun ((hF1057.2 8 rfl).trans ((hFx.2 8 rfl).trans (p_0 8 rfl))) _)) ?_
          refine jx_vr (pc_q := 65) (as := [.int (i32 (4)), .int (i32 (T0 8 (s).toNat))]) (st := []) rfl rfl rfl rfl ⟨rfl, rfl, Nat.le_of_ble_eq_true rfl⟩ rfl rfl (c_emit (dd := d) (hd := by omega) (hW := hW1056) (fn := 4) (v := T0 8 (s).toNat) (st := st2_1054) (e_st := show G1052 70 = st2_1054 from (e1059)) (lg := lg2_1055) (e_lg := show G1052 79 = lg2_1055 from (e1060))  (h_fn := ⟨(by decide), (by decide)⟩) (h_v := ⟨(Int.le_trans (by decide : (-2147483648 : Int) ≤ -2147483648) b1076.1), (Int.le_trans b1076.2 (by decide : (2147483647 : Int) ≤ 2147483647))⟩)  (p_0 := by omega) (p_1 := by omega)) (fun o V_q hq => ?_)
          obtain ⟨G1077, A1078, st2_1079, lg2_1080, rfl, rfl, hW1081, hF1082, hQ1083, e1084, e1085, p1086, p1087, p1088, p1089, p1090, p1091, -⟩ := hq
          have hF1093 := Fr_tr hF1068 hF1082 (Fr_sub (by decide)) (Fr_sub (by decide))
          have hC1094 := Fx_tr hC1069 hQ1083 (by omega)
          have hAl1095 := Fx_f hAl1070 hF1082 (by decide)
          have hBp1096 := Fx_f hBp1071 hF1082 (by decide)
          have sf1097 := FA_fr (hF1082.2 51 rfl) sf1072
          have sf1098 := SA_fr (hF1082.2 13 rfl) sf1073
          have bst2_1079 : (-2147483648 : Int) ≤ st2_1079 ∧ st2_1079 ≤ 2147483647 := e1084 ▸ hW1081.1 70
          have blg2_1080 : (0 : Int) ≤ lg2_1080 ∧ lg2_1080 ≤ 1 := e1085 ▸ hW1081.1 79
          refine .inl ⟨rfl, ?_⟩
          have sf1099 : Cd (lg2_1080 = 0 ∧ lb < 19999) (gN T0 A1078 F (nw) (T0 23 (p).toNat) ((s - T0 23 (p).toNat).toNat) (st) (st1)) := Cd_mk (fun hC => gN_mv (Cg_fx (l0 := 0) (l1 := 0) hQ1083 (Fx_f (w := 0 + 1) Fx_rf hF1082 (by decide)) (by omega)) (by omega) (Cd_ap sf1074 (by omega)))
          have sf1100 : Cd (lg2_1080 = 0 ∧ lb < 19999) (ST A1078 (st1) (st2_1054) (4) (-1)) := Cd_mk (fun hC => ST_mv (Cg_fx (l0 := 0) (l1 := 0) hQ1083 (Fx_f (w := 0 + 1) Fx_rf hF1082 (by decide)) (by omega)) (by omega) (Cd_ap p1066 (by omega)))
          have hBo1101 : Cd (lg2_1080 = 0 ∧ lb < 19999) (Fx [50] (lb + 1) A A1078) := Cd_mk (fun hC => Fx_f (Cd_ap hBo1075 (by omega)) hF1082 (by decide))
          refine jx_ld (pc_q := 66) (l_q := L) (st_q := [.ref 66]) rfl (jl_aloadn gL_0) ?_
          refine jx_ar (pc_q := 67) (st_q := [.int (i32 (1)), .ref 66]) rfl rfl rfl rfl ?_
          refine jx_ld (pc_q := 68) (l_q := L) (st_q := [.ref 66, .int (i32 (1)), .ref 66]) rfl (jl_aloadn gL_0) ?_
          refine jx_ld (pc_q := 69) (l_q := L) (st_q := [.int (i32 (s)), .ref 66, .int (i32 (1)), .ref 66]) rfl (jl_iloadn gL_2) ?_
          refine jx_vr (pc_q := 72) (as := [.int (i32 (s))]) (st := [.int (i32 (1)), .ref 66]) rfl rfl rfl rfl ⟨rfl, rfl, Nat.le_of_ble_eq_true rfl⟩ rfl rfl (c_wordOf (dd := d) (hd := by omega) (hW := hW1081) (s := s) (nw := nw) (e_nw := show G1077 81 = nw from ((hF1082.1 81 rfl).trans ((hF1057.1 81 rfl).trans (fx_81))))  (h_s := ⟨(Int.le_trans (by decide : (-2147483648 : Int) ≤ -2147483648) rx_s.1), (Int.le_trans rx_s.2 (by decide : (2147483647 : Int) ≤ 2147483647))⟩)  (p_0 := (TA_fr hF1093 (by decide) p_0)) (p_1 := sf1097) (p_2 := sf1098) (p_3 := hVW1) (p_4 := by omega) (p_5 := by omega) (p_6 := by omega) (p_7 := by omega) (p_8 := (show (Vd Vs s0 (s0 + T0 24 (p).toNat)) (s).toNat from .inr ⟨by omega, by omega⟩)) (p_9 := by omega)) (fun o V_q hq => ?_)
          obtain ⟨r1102, rfl, rfl, b1103, p1104, -⟩ := hq
          refine .inr ⟨_, rfl, ?_⟩
          refine jx_vr (pc_q := 75) (as := [.int (i32 (1)), .int (i32 (r1102))]) (st := []) rfl rfl rfl rfl ⟨rfl, rfl, Nat.le_of_ble_eq_true rfl⟩ rfl rfl (c_emit (dd := d) (hd := by omega) (hW := hW1081) (fn := 1) (v := r1102) (st := st2_1079) (e_st := show G1077 70 = st2_1079 from (e1084)) (lg := lg2_1080) (e_lg := show G1077 79 = lg2_1080 from (e1085))  (h_fn := ⟨(by decide), (by decide)⟩) (h_v := ⟨(Int.le_trans (by decide : (-2147483648 : Int) ≤ -2147483648) b1103.1), (Int.le_trans b1103.2 (by decide : (2147483647 : Int) ≤ 2147483647))⟩)  (p_0 := by omega) (p_1 := by omega)) (fun o V_q hq => ?_)
          obtain ⟨G1106, A1107, st2_1108, lg2_1109, rfl, rfl, hW1110, hF1111, hQ1112, e1113, e1114, p1115, p1116, p1117, p1118, p1119, p1120, -⟩ := hq
          have hF1122 := Fr_tr hF1093 hF1111 (Fr_sub (by decide)) (Fr_sub (by decide))
          have hC1123 := Fx_tr hC1094 hQ1112 (by omega)
          have hAl1124 := Fx_f hAl1095 hF1111 (by decide)
          have hBp1125 := Fx_f hBp1096 hF1111 (by decide)
          have sf1126 := FA_fr (hF1111.2 51 rfl) sf1097
          have sf1127 := SA_fr (hF1111.2 13 rfl) sf1098
          have bst2_1108 : (-2147483648 : Int) ≤ st2_1108 ∧ st2_1108 ≤ 2147483647 := e1113 ▸ hW1110.1 70
          have blg2_1109 : (0 : Int) ≤ lg2_1109 ∧ lg2_1109 ≤ 1 := e1114 ▸ hW1110.1 79
          refine .inl ⟨rfl, ?_⟩
          have sf1128 : Cd (lg2_1109 = 0 ∧ lb < 19999) (gN T0 A1107 F (nw) (T0 23 (p).toNat) ((s - T0 23 (p).toNat).toNat) (st) (st1)) := Cd_mk (fun hC => gN_mv (Cg_fx (l0 := 0) (l1 := 0) hQ1112 (Fx_f (w := 0 + 1) Fx_rf hF1111 (by decide)) (by omega)) (by omega) (Cd_ap sf1099 (by omega)))
          have sf1129 : Cd (lg2_1109 = 0 ∧ lb < 19999) (ST A1107 (st1) (st2_1054) (4) (-1)) := Cd_mk (fun hC => ST_mv (Cg_fx (l0 := 0) (l1 := 0) hQ1112 (Fx_f (w := 0 + 1) Fx_rf hF1111 (by decide)) (by omega)) (by omega) (Cd_ap sf1100 (by omega)))
          have sf1130 : Cd (lg2_1109 = 0 ∧ lb < 19999) (ST A1107 (st2_1054) (st2_1079) (4) (T0 8 (s).toNat)) := Cd_mk (fun hC => ST_mv (Cg_fx (l0 := 0) (l1 := 0) hQ1112 (Fx_f (w := 0 + 1) Fx_rf hF1111 (by decide)) (by omega)) (by omega) (Cd_ap p1091 (by omega)))
          have hBo1131 : Cd (lg2_1109 = 0 ∧ lb < 19999) (Fx [50] (lb + 1) A A1107) := Cd_mk (fun hC => Fx_f (Cd_ap hBo1101 (by omega)) hF1111 (by decide))
          refine jx_ld (pc_q := 76) (l_q := L) (st_q := [.ref 66]) rfl (jl_aloadn gL_0) ?_
          refine jx_ar (pc_q := 78) (st_q := [.int (i32 (14)), .ref 66]) rfl rfl rfl rfl ?_
          refine jx_vr (pc_q := 81) (as := [.int (i32 (14))]) (st := []) rfl rfl rfl rfl ⟨rfl, rfl, Nat.le_of_ble_eq_true rfl⟩ rfl rfl (c_op (dd := d) (hd := by omega) (hW := hW1110) (oo := 14) (st := st2_1108) (e_st := show G1106 70 = st2_1108 from (e1113)) (lg := lg2_1109) (e_lg := show G1106 79 = lg2_1109 from (e1114))  (h_oo := ⟨(by decide), (by decide)⟩)  (p_0 := by omega) (p_1 := by omega)) (fun o V_q hq => ?_)
          obtain ⟨G1132, A1133, st2_1134, lg2_1135, rfl, rfl, hW1136, hF1137, hQ1138, e1139, e1140, p1141, p1142, p1143, p1144, p1145, p1146, -⟩ := hq
          have hF1148 := Fr_tr hF1122 hF1137 (Fr_sub (by decide)) (Fr_sub (by decide))
          have hC1149 := Fx_tr hC1123 hQ1138 (by omega)
          have hAl1150 := Fx_f hAl1124 hF1137 (by decide)
          have hBp1151 := Fx_f hBp1125 hF1137 (by decide)
          have sf1152 := FA_fr (hF1137.2 51 rfl) sf1126
          have sf1153 := SA_fr (hF1137.2 13 rfl) sf1127
          have bst2_1134 : (-2147483648 : Int) ≤ st2_1134 ∧ st2_1134 ≤ 2147483647 := e1139 ▸ hW1136.1 70
          have blg2_1135 : (0 : Int) ≤ lg2_1135 ∧ lg2_1135 ≤ 1 := e1140 ▸ hW1136.1 79
          refine .inl ⟨rfl, ?_⟩
          have sf1154 : Cd (lg2_1135 = 0 ∧ lb < 19999) (gN T0 A1133 F (nw) (T0 23 (p).toNat) ((s - T0 23 (p).toNat).toNat) (st) (st1)) := Cd_mk (fun hC => gN_mv (Cg_fx (l0 := 0) (l1 := 0) hQ1138 (Fx_f (w := 0 + 1) Fx_rf hF1137 (by decide)) (by omega)) (by omega) (Cd_ap sf1128 (by omega)))
          have sf1155 : Cd (lg2_1135 = 0 ∧ lb < 19999) (ST A1133 (st1) (st2_1054) (4) (-1)) := Cd_mk (fun hC => ST_mv (Cg_fx (l0 := 0) (l1 := 0) hQ1138 (Fx_f (w := 0 + 1) Fx_rf hF1137 (by decide)) (by omega)) (by omega) (Cd_ap sf1129 (by omega)))
          have sf1156 : Cd (lg2_1135 = 0 ∧ lb < 19999) (ST A1133 (st2_1054) (st2_1079) (4) (T0 8 (s).toNat)) := Cd_mk (fun hC => ST_mv (Cg_fx (l0 := 0) (l1 := 0) hQ1138 (Fx_f (w := 0 + 1) Fx_rf hF1137 (by decide)) (by omega)) (by omega) (Cd_ap sf1130 (by omega)))
          have sf1157 : Cd (lg2_1135 = 0 ∧ lb < 19999) (ST A1133 (st2_1079) (st2_1108) (1) (r1102)) := Cd_mk (fun hC => ST_mv (Cg_fx (l0 := 0) (l1 := 0) hQ1138 (Fx_f (w := 0 + 1) Fx_rf hF1137 (by decide)) (by omega)) (by omega) (Cd_ap p1120 (by omega)))
          have hBo1158 : Cd (lg2_1135 = 0 ∧ lb < 19999) (Fx [50] (lb + 1) A A1133) := Cd_mk (fun hC => Fx_f (Cd_ap hBo1131 (by omega)) hF1137 (by decide))
          refine jx_inc (pc_q := 84) (l_q := jSto1 L 2 (.int (i32 ((s + (1)))))) (x := s) rfl gL_2 (by decide) rfl rfl ?_
          obtain ⟨L1159, eL1159⟩ : ∃ q, q = jSto1 L 2 (.int (i32 ((s + (1))))) := ⟨_, rfl⟩
          rw [← eL1159]
          have gL1159_0 : jGet L1159 0 = some (.ref 66) := eL1159 ▸ jg_ne (by decide) gL_0 rfl
          have gL1159_1 : jGet L1159 1 = some (.int (i32 (p))) := eL1159 ▸ jg_ne (by decide) gL_1 rfl
          have gL1159_2 : jGet L1159 2 = some (.int (i32 ((s + (1))))) := eL1159 ▸ jg_eq
          refine jx_go (tg := 7) rfl rfl ?_
          exact ih7 _ (by omega) L1159 G1132 A1133 ((s + (1))) (st2_1134) (lg2_1135) (fw1) rfl gL1159_0 gL1159_1 gL1159_2 hW1136 hF1148 hC1149 hAl1150 hBp1151 (Cd_mk (fun hC => Cd_ap hBo1158 (by omega))) ((e1139)) ((e1140)) ((congrFun ((hF1137.2 51 rfl).trans ((hF1111.2 51 rfl).trans ((hF1082.2 51 rfl).trans (hF1057.2 51 rfl)))) _).trans (ex_fw1)) (((hF1137.1 81 rfl).trans ((hF1111.1 81 rfl).trans ((hF1082.1 81 rfl).trans ((hF1057.1 81 rfl).trans (fx_81)))))) (((hF1137.1 89 rfl).trans ((hF1111.1 89 rfl).trans ((hF1082.1 89 rfl).trans ((hF1057.1 89 rfl).trans (fx_89)))))) (((hF1137.1 77 rfl).trans ((hF1111.1 77 rfl).trans ((hF1082.1 77 rfl).trans ((hF1057.1 77 rfl).trans (fx_77)))))) (by omega) (by omega) (by omega) (by omega) (by omega) (by omega) (sf1152) (sf1153) (by omega) (by omega) ((Cd_mk (fun hC => (gN_nx (by omega) (Cd_ap sf1154 (by omega)) (Cd_ap sf1155 (by omega)) (Cd_ap sf1156 (by omega)) (Cd_ap sf1157 (by omega)) (Cd_ap p1146 (by omega)) (by first | exact (if_pos (by omega)).symm | exact (if_neg (by omega)).symm) rfl (by omega)))))
set_option maxRecDepth 20000 in
set_option maxHeartbeats 4000000 in
theorem c_gen_s {X : jX} {k : Nat} (hN : GN X k) {dd : Nat} {T0 : Nat → Nat → Int} {Q F Sn : Int → Int} {Vs : Nat → Prop} {sb pb : Int} {c0 c1 : jC} {G : Nat → Int} {A : Nat → Nat → Int} {T : jH} {p : Int} {lo hi s0 s1 fr z D bd : Int} {st lg lb nw al fw : Int} (hd : 2 * (k + 1) + 62 ≤ dd) (hW : Wk G A) (e_st : G 70 = st) (e_lg : G 79 = lg) (e_lb : G 77 = lb) (e_nw : G 81 = nw) (e_al : G 89 = al) (e_fw : A 51 (nw).toNat = fw) (h_p : (-2147483648 : Int) ≤ p ∧ p ≤ 2147483647) (p_0 : TA T0 A) (p_1 : FA F (nw) A) (p_2 : SA T0 Vs Sn A) (p_3 : VW T0 Vs (nw)) (p_4 : 0 ≤ nw) (p_5 : nw + ((k + 1 : Nat) : Int) ≤ 38) (p_6 : 0 ≤ al) (p_7 : al + ((k + 1 : Nat) : Int) ≤ 38) (p_8 : 0 ≤ st) (p_9 : st ≤ 7000) (p_10 : 0 ≤ lb) (p_11 : lb + bd + 7000 - st ≤ 1900000000) (p_12 : hi ≤ 6999) (p_13 : sb ≤ 202) (p_14 : 0 ≤ lo) (p_15 : 0 ≤ s0) (p_16 : s1 ≤ sb) (p_17 : wP T0 sb pb (k + 1) (Vs) (p) (lo) (hi) (s0) (s1)) (p_18 : VB (Vs) (s0)) (p_19 : lP T0 (k + 1) (p) (fr) (nw) (z) (D)) (p_20 : WB (lo) (hi) (bd)) (p_21 : 1 ≤ fr) (p_22 : z ≤ 4000) (p_23 : 0 ≤ D) (p_24 : D ≤ 4000) (p_25 : -4000 ≤ fw - D) (p_26 : fw ≤ 0) (p_27 : pb ≤ 24) (p_28 : PV T0 pb) (p_29 : PA Q pb A) : wk X dd 353 [.ref 66, .int (i32 p)] (rV c0 c1 G A T) (fun o V_q => ∃ (G_q : Nat → Int) (A_q : Nat → Nat → Int) (st2 : Int) (lg2 : Int) (lb2 : Int) (nw2 : Int) (al2 : Int) (fw2 : Int), V_q = rV c0 c1 G_q A_q T ∧ o = .inl none ∧ Wk G_q A_q ∧ Fr [70, 77, 79, 81, 89] [13, 44, 45, 46, 47, 50, 51, 56, 57, 58] G A G_q A_q ∧ Fx [44, 45, 46, 47] (st) A A_q ∧ Fx [58] (8 * al) A A_q ∧ Fx [56, 57] (8 * nw) A A_q ∧ G_q 70 = st2 ∧ G_q 79 = lg2 ∧ G_q 77 = lb2 ∧ G_q 81 = nw2 ∧ G_q 89 = al2 ∧ A_q 51 (nw).toNat = fw2 ∧ (st ≤ st2) ∧ (st2 ≤ 7000) ∧ (lg ≤ lg2) ∧ (lg2 ≤ 1) ∧ (lb ≤ lb2) ∧ (Cd (lg2 = 0) (lb2 - lb ≤ st2 - st)) ∧ (lb2 - lb ≤ st2 - st + bd) ∧ (Cd (lg2 = 0 ∧ lb2 < 19999) (Fx [50] (lb + 1) A A_q)) ∧ (nw2 = nw) ∧ (al2 = al) ∧ (fw2 = fw) ∧ (FA F (nw) A_q) ∧ (SA T0 Vs Sn A_q) ∧ (Cd (lg2 = 0 ∧ lb2 < 19999) (gP T0 A_q Q (k + 1) (F) (Sn) (nw) (p) (st) (st2) (lb) (lb2))) ∧ True) := by
  obtain ⟨d, rfl⟩ : ∃ d, dd = d + 1 := ⟨dd - 1, by omega⟩
  refine wk_of (e := jm353) rfl (Nat.le_of_ble_eq_true rfl) ?_
  show wj X d jm353 (0, [(0, .ref 66), (1, .int (i32 (p)))], [], rV c0 c1 G A T) _
  have hF0 : Fr [70, 77, 79, 81, 89] [13, 44, 45, 46, 47, 50, 51, 56, 57, 58] G A G A := Fr_rf
  have hC0 : Fx [44, 45, 46, 47] (st) A A := Fx_rf
  have hAl0 : Fx [58] (8 * al) A A := Fx_rf
  have hBp0 : Fx [56, 57] (8 * nw) A A := Fx_rf
  have b_st : (-2147483648 : Int) ≤ st ∧ st ≤ 2147483647 := e_st ▸ hW.1 70
  have b_lg : (0 : Int) ≤ lg ∧ lg ≤ 1 := e_lg ▸ hW.1 79
  have b_lb : (-2147483648 : Int) ≤ lb ∧ lb ≤ 2147483647 := e_lb ▸ hW.1 77
  have b_nw : (-2147483648 : Int) ≤ nw ∧ nw ≤ 2147483647 := e_nw ▸ hW.1 81
  have b_al : (-2147483648 : Int) ≤ al ∧ al ≤ 2147483647 := e_al ▸ hW.1 89
  have b_fw : (-2147483648 : Int) ≤ fw ∧ fw ≤ 2147483647 := e_fw ▸ hW.2 51 _
  have hWT := TA_w hW p_0
  have hBo0 : Cd (lg = 0 ∧ lb < 19999) (Fx [50] (lb + 1) A A) := Cd_mk (fun _ => Fx_rf)
  have hfw := FA_at p_1 p_4 e_fw
  have hwp := p_17
  unfold wP at hwp
  obtain ⟨w1, w2, w3, w4, w5, w6, w7, w8⟩ := hwp
  have hly := p_19
  unfold lP at hly
  obtain ⟨y1, y2, y3⟩ := hly
  have hm24 : (((T0 24 (p).toNat).toNat : Nat) : Int) = T0 24 (p).toNat := by omega
  have hz0 := (zS_le (A := T0) (s := T0 23 (p).toNat) (m := (T0 24 (p).toNat).toNat) (fun j hj => by have := w7 (T0 23 (p).toNat + (j : Int)).toNat (by omega) (by omega); omega) (j := (T0 24 (p).toNat).toNat) (Nat.le_refl _)).1
  have hVW1 : VW T0 (Vd Vs s0 (s0 + T0 24 (p).toNat)) nw := (by have q := VW_d (m := (T0 24 (p).toNat).toNat) (f := fr) p_3 w3 p_4 (by rw [hm24]; exact w7) (by rw [← w4]; exact y1) (by omega) (by rw [← w4]; omega); rw [hm24] at q; exact q); have hSA1 : SA T0 (Vd Vs s0 (s0 + T0 24 (p).toNat)) Sn A := SA_d p_2 w7; have hVB1 : VB (Vd Vs s0 (s0 + T0 24 (p).toNat)) (s0 + T0 24 (p).toNat) := VB_d p_18 (by omega)
  refine jx_ld (pc_q := 1) (l_q := [(0, .ref 66), (1, .int (i32 (p)))]) (st_q := [.ref 66]) rfl (jl_aloadn rfl) ?_
  refine jr_get (pc_q := 4) (i := 40) (v := .ref 90) rfl rfl (by decide) rfl rfl ?_
  refine jx_ld (pc_q := 5) (l_q := [(0, .ref 66), (1, .int (i32 (p)))]) (st_q := [.int (i32 (p)), .ref 90]) rfl (jl_iloadn rfl) ?_
  have b1160 : (-2147483648 : Int) ≤ T0 23 (p).toNat ∧ T0 23 (p).toNat ≤ 2147483647 := hWT.2 23 _
  refine jr_ldv (pc_q := 6) (i := 23) (m := 7000) (z := p) (y := T0 23 (p).toNat) rfl (by decide) rfl (by decide) (by omega) (by omega) rfl (show A 23 (p).toNat = T0 23 (p).toNat from (congrFun (p_0 23 rfl) _)) ?_
  refine jx_ld (pc_q := 7) (l_q := jSto1 [(0, .ref 66), (1, .int (i32 (p)))] 2 (.int (i32 (T0 23 (p).toNat)))) (st_q := []) rfl rfl ?_
  obtain ⟨L1161, eL1161⟩ : ∃ q, q = jSto1 [(0, .ref 66), (1, .int (i32 (p)))] 2 (.int (i32 (T0 23 (p).toNat))) := ⟨_, rfl⟩
  rw [← eL1161]
  have gL1161_0 : jGet L1161 0 = some (.ref 66) := eL1161 ▸ jg_ne (by decide) (rfl : jGet [(0, .ref 66), (1, .int (i32 (p)))] 0 = some (.ref 66)) rfl
  have gL1161_1 : jGet L1161 1 = some (.int (i32 (p))) := eL1161 ▸ jg_ne (by decide) (rfl : jGet [(0, .ref 66), (1, .int (i32 (p)))] 1 = some (.int (i32 (p)))) rfl
  have gL1161_2 : jGet L1161 2 = some (.int (i32 (T0 23 (p).toNat))) := eL1161 ▸ jg_eq
  exact c_gen_s_at_7 (X := X) (k := k) (hN := hN) (d := d) (T0 := T0) (Q := Q) (F := F) (Sn := Sn) (Vs := Vs) (sb := sb) (pb := pb) (c0 := c0) (c1 := c1) (G := G) (A := A) (T := T) (p := p) (lo := lo) (hi := hi) (s0 := s0) (s1 := s1) (fr := fr) (z := z) (D := D) (bd := bd) (st := st) (lg := lg) (lb := lb) (nw := nw) (al := al) (fw := fw) (hd := hd) (hW := hW) (e_st := e_st) (e_lg := e_lg) (e_lb := e_lb) (e_nw := e_nw) (e_al := e_al) (e_fw := e_fw) (h_p := h_p) (p_0 := p_0) (p_1 := p_1) (p_2 := p_2) (p_3 := p_3) (p_4 := p_4) (p_5 := p_5) (p_6 := p_6) (p_7 := p_7) (p_8 := p_8) (p_9 := p_9) (p_10 := p_10) (p_11 := p_11) (p_12 := p_12) (p_13 := p_13) (p_14 := p_14) (p_15 := p_15) (p_16 := p_16) (p_17 := p_17) (p_18 := p_18) (p_19 := p_19) (p_20 := p_20) (p_21 := p_21) (p_22 := p_22) (p_23 := p_23) (p_24 := p_24) (p_25 := p_25) (p_26 := p_26) (p_27 := p_27) (p_28 := p_28) (p_29 := p_29) _ L1161 G A (T0 23 (p).toNat) (st) (lg) (fw) rfl gL1161_0 gL1161_1 gL1161_2 hW hF0 hC0 hAl0 hBp0 (Cd_mk (fun hC => Cd_ap hBo0 (by omega))) ((e_st)) ((e_lg)) ((e_fw)) ((e_nw)) ((e_al)) ((e_lb)) (by omega) (by omega) (by omega) (by omega) (by omega) (by omega) (p_1) (hSA1) (by omega) (by omega) ((Cd_mk (fun hC => (gN_0 (by rw [w4]; omega) (by omega)))))
theorem c_gen_0 {X : jX} {dd : Nat} {T0 : Nat → Nat → Int} {Q F Sn : Int → Int} {Vs : Nat → Prop} {sb pb : Int} {c0 c1 : jC} {G : Nat → Int} {A : Nat → Nat → Int} {T : jH} {p : Int} {lo hi s0 s1 fr z D bd : Int} {st lg lb nw al fw : Int} (hd : 2 * 0 + 62 ≤ dd) (hW : Wk G A) (e_st : G 70 = st) (e_lg : G 79 = lg) (e_lb : G 77 = lb) (e_nw : G 81 = nw) (e_al : G 89 = al) (e_fw : A 51 (nw).toNat = fw) (h_p : (-2147483648 : Int) ≤ p ∧ p ≤ 2147483647) (p_0 : TA T0 A) (p_1 : FA F (nw) A) (p_2 : SA T0 Vs Sn A) (p_3 : VW T0 Vs (nw)) (p_4 : 0 ≤ nw) (p_5 : nw + ((0 : Nat) : Int) ≤ 38) (p_6 : 0 ≤ al) (p_7 : al + ((0 : Nat) : Int) ≤ 38) (p_8 : 0 ≤ st) (p_9 : st ≤ 7000) (p_10 : 0 ≤ lb) (p_11 : lb + bd + 7000 - st ≤ 1900000000) (p_12 : hi ≤ 6999) (p_13 : sb ≤ 202) (p_14 : 0 ≤ lo) (p_15 : 0 ≤ s0) (p_16 : s1 ≤ sb) (p_17 : wP T0 sb pb (0) (Vs) (p) (lo) (hi) (s0) (s1)) (p_18 : VB (Vs) (s0)) (p_19 : lP T0 (0) (p) (fr) (nw) (z) (D)) (p_20 : WB (lo) (hi) (bd)) (p_21 : 1 ≤ fr) (p_22 : z ≤ 4000) (p_23 : 0 ≤ D) (p_24 : D ≤ 4000) (p_25 : -4000 ≤ fw - D) (p_26 : fw ≤ 0) (p_27 : pb ≤ 24) (p_28 : PV T0 pb) (p_29 : PA Q pb A) : wk X dd 353 [.ref 66, .int (i32 p)] (rV c0 c1 G A T) (fun o V_q => ∃ (G_q : Nat → Int) (A_q : Nat → Nat → Int) (st2 : Int) (lg2 : Int) (lb2 : Int) (nw2 : Int) (al2 : Int) (fw2 : Int), V_q = rV c0 c1 G_q A_q T ∧ o = .inl none ∧ Wk G_q A_q ∧ Fr [70, 77, 79, 81, 89] [13, 44, 45, 46, 47, 50, 51, 56, 57, 58] G A G_q A_q ∧ Fx [44, 45, 46, 47] (st) A A_q ∧ Fx [58] (8 * al) A A_q ∧ Fx [56, 57] (8 * nw) A A_q ∧ G_q 70 = st2 ∧ G_q 79 = lg2 ∧ G_q 77 = lb2 ∧ G_q 81 = nw2 ∧ G_q 89 = al2 ∧ A_q 51 (nw).toNat = fw2 ∧ (st ≤ st2) ∧ (st2 ≤ 7000) ∧ (lg ≤ lg2) ∧ (lg2 ≤ 1) ∧ (lb ≤ lb2) ∧ (Cd (lg2 = 0) (lb2 - lb ≤ st2 - st)) ∧ (lb2 - lb ≤ st2 - st + bd) ∧ (Cd (lg2 = 0 ∧ lb2 < 19999) (Fx [50] (lb + 1) A A_q)) ∧ (nw2 = nw) ∧ (al2 = al) ∧ (fw2 = fw) ∧ (FA F (nw) A_q) ∧ (SA T0 Vs Sn A_q) ∧ (Cd (lg2 = 0 ∧ lb2 < 19999) (gP T0 A_q Q (0) (F) (Sn) (nw) (p) (st) (st2) (lb) (lb2))) ∧ True) := by
  exact False.elim p_17
theorem GN_all (X : jX) : ∀ k, GN X k
  | 0 => @c_gen_0 X
  | k + 1 => @c_gen_s X k (GN_all X k)
