def GN (X : jX) (k : Nat) : Prop := ∀ ⦃dd : Nat⦄ ⦃T0 : Nat → Nat → Int⦄ ⦃Q F Sn : Int → Int⦄ ⦃Vs : Nat → Prop⦄ ⦃sb pb : Int⦄ ⦃c0 c1 : jC⦄ ⦃G : Nat → Int⦄ ⦃A : Nat → Nat → Int⦄ ⦃T : jH⦄ ⦃p : Int⦄ ⦃lo hi s0 s1 fr z D bd : Int⦄ ⦃st lg lb nw al fw : Int⦄ (hd : 2 * k + 62 ≤ dd) (hW : Wk G A) (e_st : G 70 = st) (e_lg : G 79 = lg) (e_lb : G 77 = lb) (e_nw : G 81 = nw) (e_al : G 89 = al) (e_fw : A 51 (nw).toNat = fw) (h_p : (-2147483648 : Int) ≤ p ∧ p ≤ 2147483647) (p_0 : TA T0 A) (p_1 : FA F (nw) A) (p_2 : SA T0 Vs Sn A) (p_3 : VW T0 Vs (nw)) (p_4 : 0 ≤ nw) (p_5 : nw + (k : Int) ≤ 38) (p_6 : 0 ≤ al) (p_7 : al + (k : Int) ≤ 38) (p_8 : 0 ≤ st) (p_9 : st ≤ 7000) (p_10 : 0 ≤ lb) (p_11 : lb + bd + 7000 - st ≤ 1900000000) (p_12 : hi ≤ 6999) (p_13 : sb ≤ 202) (p_14 : 0 ≤ lo) (p_15 : 0 ≤ s0) (p_16 : s1 ≤ sb) (p_17 : wP T0 sb pb (k) (Vs) (p) (lo) (hi) (s0) (s1)) (p_18 : VB (Vs) (s0)) (p_19 : lP T0 (k) (p) (fr) (nw) (z) (D)) (p_20 : WB (lo) (hi) (bd)) (p_21 : 1 ≤ fr) (p_22 : z ≤ 4000) (p_23 : 0 ≤ D) (p_24 : D ≤ 4000) (p_25 : -4000 ≤ fw - D) (p_26 : fw ≤ 0) (p_27 : pb ≤ 24) (p_28 : PV T0 pb) (p_29 : PA Q pb A), wk X dd 353 [.ref 66, .int (i32 p)] (rV c0 c1 G A T) (fun o V_q => ∃ (G_q : Nat → Int) (A_q : Nat → Nat → Int) (st2 : Int) (lg2 : Int) (lb2 : Int) (nw2 : Int) (al2 : Int) (fw2 : Int), V_q = rV c0 c1 G_q A_q T ∧ o = .inl none ∧ Wk G_q A_q ∧ Fr [70, 77, 79, 81, 89] [13, 44, 45, 46, 47, 50, 51, 56, 57, 58] G A G_q A_q ∧ Fx [44, 45, 46, 47] (st) A A_q ∧ Fx [58] (8 * al) A A_q ∧ Fx [56, 57] (8 * nw) A A_q ∧ G_q 70 = st2 ∧ G_q 79 = lg2 ∧ G_q 77 = lb2 ∧ G_q 81 = nw2 ∧ G_q 89 = al2 ∧ A_q 51 (nw).toNat = fw2 ∧ (st ≤ st2) ∧ (st2 ≤ 7000) ∧ (lg ≤ lg2) ∧ (lg2 ≤ 1) ∧ (lb ≤ lb2) ∧ (Cd (lg2 = 0) (lb2 - lb ≤ st2 - st)) ∧ (lb2 - lb ≤ st2 - st + bd) ∧ (Cd (lg2 = 0 ∧ lb2 < 19999) (Fx [50] (lb + 1) A A_q)) ∧ (nw2 = nw) ∧ (al2 = al) ∧ (fw2 = fw) ∧ (FA F (nw) A_q) ∧ (SA T0 Vs Sn A_q) ∧ (Cd (lg2 = 0 ∧ lb2 < 19999) (gP T0 A_q Q (k) (F) (Sn) (nw) (p) (st) (st2) (lb) (lb2))) ∧ True)
set_option maxRecDepth 20000 in
set_option maxHeartbeats 4000000 in
theorem c_genIf_at_12 {X : jX} {k : Nat} (hN : GN X k) {d : Nat} {T0 : Nat → Nat → Int} {Q F Sn : Int → Int} {Vs : Nat → Prop} {sb pb : Int} {c0 c1 : jC} {G : Nat → Int} {A : Nat → Nat → Int} {T : jH} {n : Int} {hi s0 s1 fr z D bd : Int} {st lg lb nw al fw : Int} (hd : 2 * k + 63 ≤ d + 1) (hW : Wk G A) (e_st : G 70 = st) (e_lg : G 79 = lg) (e_lb : G 77 = lb) (e_nw : G 81 = nw) (e_al : G 89 = al) (e_fw : A 51 (nw).toNat = fw) (h_n : (-2147483648 : Int) ≤ n ∧ n ≤ 2147483647) (p_0 : TA T0 A) (p_1 : FA F (nw) A) (p_2 : SA T0 Vs Sn A) (p_3 : VW T0 Vs (nw)) (p_4 : 0 ≤ nw) (p_5 : nw + (k : Int) ≤ 38) (p_6 : 0 ≤ al) (p_7 : al + (k : Int) ≤ 38) (p_8 : 0 ≤ st) (p_9 : st ≤ 7000) (p_10 : 0 ≤ lb) (p_11 : lb + bd + 7000 - st ≤ 1900000000) (p_12 : hi ≤ 6999) (p_13 : sb ≤ 202) (p_14 : 0 ≤ n) (p_15 : n < hi) (p_16 : 0 ≤ s0) (p_17 : s0 ≤ s1) (p_18 : s1 ≤ sb) (p_19 : LQ T0 (wI T0 Vs sb (wP T0 sb pb k Vs)) (fun _ => True) (n) (T0 21 (n).toNat) (n + 1) (hi) (s0) (s1) (n + 1) (s0)) (p_20 : VB (Vs) (s0)) (p_21 : (∀ l, CH T0 (T0 21 (n).toNat) l → ∀ c ∈ l, lI T0 (lP T0 k) (fr) (nw) (z) (D) c)) (p_22 : WB (n) (hi) (bd)) (p_23 : 1 ≤ fr) (p_24 : z ≤ 4000) (p_25 : 0 ≤ D) (p_26 : D ≤ 4000) (p_27 : -4000 ≤ fw - D) (p_28 : fw ≤ 0) (p_29 : pb ≤ 24) (p_30 : PV T0 pb) (p_31 : PA Q pb A) : ∀ (m : Nat) (L : jL) (Gx : Nat → Int) (Ax : Nat → Nat → Int) (le c st1 lg1 lb1 fw1 gm gt bs : Int), (hi - gm).toNat = m → jGet L 0 = some (.ref 66) → jGet L 1 = some (.int (i32 (n))) → jGet L 2 = some (.int (i32 le)) → jGet L 3 = some (.int (i32 c)) → Wk Gx Ax → Fr [70, 77, 79, 81, 89] [13, 44, 45, 46, 47, 50, 51, 56, 57, 58] G A Gx Ax → Fx [44, 45, 46, 47] (st) A Ax → Fx [58] (8 * al) A Ax → Fx [56, 57] (8 * nw) A Ax → Cd (lg1 = 0 ∧ lb1 < 19999) (Fx [50] (lb + 1) A Ax) → Gx 70 = st1 → Gx 79 = lg1 → Gx 77 = lb1 → Ax 51 (nw).toNat = fw1 → Gx 81 = nw → Gx 89 = al → ((-2147483648 : Int) ≤ le ∧ le ≤ 2147483647) → ((-2147483648 : Int) ≤ c ∧ c ≤ 2147483647) → (st ≤ st1) → (st1 ≤ 7000) → (lg ≤ lg1) → (lg1 ≤ 1) → (lb + 1 ≤ lb1) → (Cd (lg1 = 0) (lb1 - (lb + 1) ≤ st1 - st)) → (lb1 - lb ≤ st1 - st + 1 + bs) → (WB (n + 1) (gm) (bs)) → (1 ≤ le) → (le ≤ 19999) → (Cd (lb1 < 20000) (le = lb + 1)) → (n + 1 ≤ gm) → (gm ≤ hi) → (s0 ≤ gt) → (gt ≤ s1) → (fw1 = fw) → (FA F (nw) Ax) → (SA T0 Vs Sn Ax) → (LQ T0 (wI T0 Vs sb (wP T0 sb pb k Vs)) (fun _ => True) (n) (c) (n + 1) (hi) (s0) (s1) (gm) (gt)) → (Cd (lg1 = 0 ∧ lb1 < 19999) (hIq T0 Ax Q k F Sn (nw) (le) (n) (c) (st) (st1) (lb + 1) (lb1))) → wj X d jm357 (12, L, [], rV c0 c1 Gx Ax T) (fun o V_q => ∃ (G_q : Nat → Int) (A_q : Nat → Nat → Int) (st2 : Int) (lg2 : Int) (lb2 : Int) (nw2 : Int) (al2 : Int) (fw2 : Int), V_q = rV c0 c1 G_q A_q T ∧ o = .inl none ∧ Wk G_q A_q ∧ Fr [70, 77, 79, 81, 89] [13, 44, 45, 46, 47, 50, 51, 56, 57, 58] G A G_q A_q ∧ Fx [44, 45, 46, 47] (st) A A_q ∧ Fx [58] (8 * al) A A_q ∧ Fx [56, 57] (8 * nw) A A_q ∧ G_q 70 = st2 ∧ G_q 79 = lg2 ∧ G_q 77 = lb2 ∧ G_q 81 = nw2 ∧ G_q 89 = al2 ∧ A_q 51 (nw).toNat = fw2 ∧ (st ≤ st2) ∧ (st2 ≤ 7000) ∧ (lg ≤ lg2) ∧ (lg2 ≤ 1) ∧ (lb ≤ lb2) ∧ (Cd (lg2 = 0) (lb2 - lb ≤ st2 - st)) ∧ (lb2 - lb ≤ st2 - st + bd) ∧ (Cd (lg2 = 0 ∧ lb2 < 19999) (Fx [50] (lb + 1) A A_q)) ∧ (nw2 = nw) ∧ (al2 = al) ∧ (fw2 = fw) ∧ (FA F (nw) A_q) ∧ (SA T0 Vs Sn A_q) ∧ (Cd (lg2 = 0 ∧ lb2 < 19999) (gIf T0 A_q F Sn nw (gP T0 A_q Q k F Sn nw) (n) (st) (st2) (lb) (lb2))) ∧ True) := by
  have hF0 : Fr [70, 77, 79, 81, 89] [13, 44, 45, 46, 47, 50, 51, 56, 57, 58] G A G A := Fr_rf
  have hC0 : Fx [44, 45, 46, 47] (st) A A := Fx_rf
  have hAl0 : Fx [58] (8 * al) A A := Fx_rf
  have hBp0 : Fx [56, 57] (8 * nw) A A := Fx_rf
  have b_st : (-2147483648 : Int) ≤ st ∧ st ≤ 2147483647 := e_st ▸ hW.1 70
  have b_lg : (0 : Int) ≤ lg ∧ lg ≤ 1 := e_lg ▸ hW.1 79
  have b_lb : (-2147483648 : Int) ≤ lb ∧ lb ≤ 2147483647 := e_lb ▸ hW.1 77
  have b_nw : (-2147483648 : Int) ≤ nw ∧ nw ≤ 2147483647 := e_nw ▸ hW.1 81
  have b_al : (-2147483648 : Int) ≤ al ∧ al ≤ 2147483647 := e_al ▸ hW.1 89
  have b_fw : (-2147483648 : Int) ≤ fw ∧ fw ≤ 2147483647 := e_fw ▸ hW.2 51 _
  have hWT := TA_w hW p_0
  have hBo0 : Cd (lg = 0 ∧ lb < 19999) (Fx [50] (lb + 1) A A) := Cd_mk (fun _ => Fx_rf)
  have hfw := FA_at p_1 p_4 e_fw
  have hbp := WB_p p_22 (by omega) (by omega) (by omega)
  intro m
  induction m using Nat.strongRecOn with
  | ind m ih12 =>
    intro L Gx Ax le c st1 lg1 lb1 fw1 gm gt bs hm gL_0 gL_1 gL_2 gL_3 hWx hFx hCx hAlx hBpx hBox ex_st1 ex_lg1 ex_lb1 ex_fw1 fx_81 fx_89 rx_le rx_c iv_0 iv_1 iv_2 iv_3 iv_4 iv_5 iv_6 iv_7 iv_8 iv_9 iv_10 iv_11 iv_12 iv_13 iv_14 iv_15 iv_16 iv_17 iv_18 iv_19
    have b_st1 : (-2147483648 : Int) ≤ st1 ∧ st1 ≤ 2147483647 := ex_st1 ▸ hWx.1 70
    have b_lg1 : (0 : Int) ≤ lg1 ∧ lg1 ≤ 1 := ex_lg1 ▸ hWx.1 79
    have b_lb1 : (-2147483648 : Int) ≤ lb1 ∧ lb1 ≤ 2147483647 := ex_lb1 ▸ hWx.1 77
    refine jx_ld (pc_q := 13) (l_q := L) (st_q := [.int (i32 (c))]) rfl (jl_iloadn gL_3) ?_
    refine jx_if_le (pc_q := 16) (tg := 74) rfl rfl rfl (Int.le_trans (by decide : (-2147483648 : Int) ≤ -2147483648) rx_c.1) (Int.le_trans rx_c.2 (by decide : (2147483647 : Int) ≤ 2147483647)) (fun h1 => ?_) (fun h1 => ?_)
    · have _q := h1
      have hbe := WB_e p_22 iv_7 (by omega) (by omega)
      refine jx_ld (pc_q := 75) (l_q := L) (st_q := [.ref 66]) rfl (jl_aloadn gL_0) ?_
      refine jx_ar (pc_q := 77) (st_q := [.int (i32 (29)), .ref 66]) rfl rfl rfl rfl ?_
      refine jx_vr (pc_q := 80) (as := [.int (i32 (29))]) (st := []) rfl rfl rfl rfl ⟨rfl, rfl, Nat.le_of_ble_eq_true rfl⟩ rfl rfl (c_op (dd := d) (hd := by omega) (hW := hWx) (oo := 29) (st := st1) (e_st := show Gx 70 = st1 from (ex_st1)) (lg := lg1) (e_lg := show Gx 79 = lg1 from (ex_lg1))  (h_oo := ⟨(by decide), (by decide)⟩)  (p_0 := by omega) (p_1 := by omega)) (fun o V_q hq => ?_)
      obtain ⟨G2, A3, st2_4, lg2_5, rfl, rfl, hW6, hF7, hQ8, e9, e10, p11, p12, p13, p14, p15, p16, -⟩ := hq
      have hF18 := Fr_tr hFx hF7 (Fr_sub (by decide)) (Fr_sub (by decide))
      have hC19 := Fx_tr hCx hQ8 (by omega)
      have hAl20 := Fx_f hAlx hF7 (by decide)
      have hBp21 := Fx_f hBpx hF7 (by decide)
      have sf22 := FA_fr (hF7.2 51 rfl) iv_16
      have sf23 := SA_fr (hF7.2 13 rfl) iv_17
      have bst2_4 : (-2147483648 : Int) ≤ st2_4 ∧ st2_4 ≤ 2147483647 := e9 ▸ hW6.1 70
      have blg2_5 : (0 : Int) ≤ lg2_5 ∧ lg2_5 ≤ 1 := e10 ▸ hW6.1 79
      refine .inl ⟨rfl, ?_⟩
      have sf24 : Cd (lg2_5 = 0 ∧ lb1 < 19999) (hIq T0 A3 Q k F Sn (nw) (le) (n) (c) (st) (st1) (lb + 1) (lb1)) := Cd_mk (fun hC => hIq_mv (Cg_fx (l0 := lb + 1) (l1 := lb1) hQ8 (Fx_f (w := lb1 + 1) Fx_rf hF7 (by decide)) (by omega)) (by omega) (Cd_ap iv_19 (by omega)))
      have hBo25 : Cd (lg2_5 = 0 ∧ lb1 < 19999) (Fx [50] (lb + 1) A A3) := Cd_mk (fun hC => Fx_f (Cd_ap hBox (by omega)) hF7 (by decide))
      refine jx_ld (pc_q := 81) (l_q := L) (st_q := [.ref 66]) rfl (jl_aloadn gL_0) ?_
      refine jx_ld (pc_q := 82) (l_q := L) (st_q := [.int (i32 (le)), .ref 66]) rfl (jl_iloadn gL_2) ?_
      refine jx_vr (pc_q := 85) (as := [.int (i32 (le))]) (st := []) rfl rfl rfl rfl ⟨rfl, rfl, Nat.le_of_ble_eq_true rfl⟩ rfl rfl (c_set (dd := d) (hd := by omega) (hW := hW6) (l := le) (st := st2_4) (e_st := show G2 70 = st2_4 from (e9))  (h_l := ⟨(Int.le_trans (by decide : (-2147483648 : Int) ≤ -2147483648) rx_le.1), (Int.le_trans rx_le.2 (by decide : (2147483647 : Int) ≤ 2147483647))⟩)  (p_0 := by omega) (p_1 := by omega)) (fun o V_q hq => ?_)
      obtain ⟨G26, A27, ls2_28, rfl, rfl, hW29, hF30, e31, p32, q33⟩ := hq
      have hF34 := Fr_tr hF18 hF30 (Fr_sub (by decide)) (Fr_sub (by decide))
      have hC35 := Fx_f hC19 hF30 (by decide)
      have hAl36 := Fx_f hAl20 hF30 (by decide)
      have hBp37 := Fx_f hBp21 hF30 (by decide)
      have bls2_28 : (-2147483648 : Int) ≤ ls2_28 ∧ ls2_28 ≤ 2147483647 := e31 ▸ hW29.2 50 _
      refine .inl ⟨rfl, ?_⟩
      have a38 := q33
      have sf39 := FA_fr ((congrFun a38 51).trans (uA_ne (by decide))) sf22
      have sf40 := SA_fr ((congrFun a38 13).trans (uA_ne (by decide))) sf23
      have sf41 : Cd (lg2_5 = 0 ∧ lb1 < 19999) (hIq T0 A27 Q k F Sn (nw) (le) (n) (c) (st) (st1) (lb + 1) (lb1)) := Cd_mk (fun hC => hIq_mv (Cg_set (K := st1) a38 (by omega) (by have hr := Cd_ap iv_10 (by omega); omega)) (Int.le_refl _) (Cd_ap sf24 (by omega)))
      have sf42 : Cd (lg2_5 = 0 ∧ lb1 < 19999) (ST A27 (st1) (st2_4) (15) (29)) := Cd_mk (fun hC => ST_mv (Cg_set (K := st2_4) (l0 := le) (l1 := le) a38 (by omega) (by omega)) (Int.le_refl _) (Cd_ap p16 (by omega)))
      have hBo43 : Cd (lg2_5 = 0 ∧ lb1 < 19999) (Fx [50] (lb + 1) A A27) := Cd_mk (fun hC => Fx_u a38 (Cd_ap hBo25 (by omega)) (by omega) (by have hr := Cd_ap iv_10 (by omega); omega))
      refine jx_rt (v := none) rfl rfl rfl rfl rfl rfl ?_
      exact ⟨_, _, st2_4, lg2_5, lb1, nw, al, fw1, rfl, rfl, hW29, hF34, hC35, hAl36, hBp37, ((hF30.1 70 rfl).trans (e9)), ((hF30.1 79 rfl).trans (e10)), ((hF30.1 77 rfl).trans ((hF7.1 77 rfl).trans (ex_lb1))), ((hF30.1 81 rfl).trans ((hF7.1 81 rfl).trans (fx_81))), ((hF30.1 89 rfl).trans ((hF7.1 89 rfl).trans (fx_89))), (congrFun ((hF30.2 51 rfl).trans (hF7.2 51 rfl)) _).trans (ex_fw1), by omega, by omega, by omega, by omega, by omega, (Cd_mk (fun hC => by have := Cd_ap iv_5 (by omega); omega)), by omega, (Cd_mk (fun hC => Cd_ap hBo43 (by omega))), by omega, by omega, by omega, sf39, sf40, (Cd_mk (fun hC => ⟨le, _, lb + 1, by omega, by omega, (LZ_mk (l0 := lb) (l1 := lb + 1) (by omega) (by have hr := Cd_ap iv_10 (by omega); omega) (by have hr := Cd_ap iv_10 (by omega); omega) ((show A27 50 (le).toNat = ls2_28 from (e31)).trans (by omega))), gQ_end (Cd_ap sf41 (by omega)) (by omega), (Cd_ap sf42 (by omega))⟩)), trivial⟩
    · have _q := h1
      obtain ⟨l1, m1, t1, q1, q2, q3, q4, q5, q6, ⟨i1, i2, x, i3, i4, i5, i6⟩, _, _, hnx⟩ := LQ_hd iv_18 (by omega); have hly := (LQ_lay (M := fun _ => True) iv_18 (by omega) p_21).2; obtain ⟨b1, hb1⟩ : ∃ b, WB x m1 b := WB_ex _ _; obtain ⟨b2, hb2⟩ : ∃ b, WB (n + 1) m1 b := WB_ex _ _; have hbn := WB_nx iv_7 hb1 hb2 (by omega) (by omega) (by omega); have hbe := WB_e p_22 hb2 (by omega) (by omega)
      refine jx_ld (pc_q := 17) (l_q := L) (st_q := [.ref 66]) rfl (jl_aloadn gL_0) ?_
      refine jx_vr (pc_q := 20) (as := []) (st := []) rfl rfl rfl rfl ⟨rfl, rfl, Nat.le_of_ble_eq_true rfl⟩ rfl rfl (c_label (dd := d) (hd := by omega) (hW := hWx)  (lb := lb1) (e_lb := show Gx 77 = lb1 from (ex_lb1))    (p_0 := by omega) (p_1 := by omega)) (fun o V_q hq => ?_)
      obtain ⟨G44, A45, r46, lb2_47, rfl, rfl, hW48, hF49, b50, e51, p52, p53, p54, p55, -⟩ := hq
      have hF57 := Fr_tr hFx hF49 (Fr_sub (by decide)) (Fr_sub (by decide))
      have hC58 := Fx_f hCx hF49 (by decide)
      have hAl59 := Fx_f hAlx hF49 (by decide)
      have hBp60 := Fx_f hBpx hF49 (by decide)
      have sf61 := FA_fr (hF49.2 51 rfl) iv_16
      have sf62 := SA_fr (hF49.2 13 rfl) iv_17
      have blb2_47 : (-2147483648 : Int) ≤ lb2_47 ∧ lb2_47 ≤ 2147483647 := e51 ▸ hW48.1 77
      refine .inr ⟨_, rfl, ?_⟩
      have sf63 : Cd (lg1 = 0 ∧ lb2_47 < 19999) (hIq T0 A45 Q k F Sn (nw) (le) (n) (c) (st) (st1) (lb + 1) (lb1)) := Cd_mk (fun hC => hIq_mv (Cg_fx (l0 := lb + 1) (l1 := lb1) (Fx_f (w := st1) Fx_rf hF49 (by decide)) (Fx_f (w := lb1 + 1) Fx_rf hF49 (by decide)) (by omega)) (by omega) (Cd_ap iv_19 (by omega)))
      have hBo64 : Cd (lg1 = 0 ∧ lb2_47 < 19999) (Fx [50] (lb + 1) A A45) := Cd_mk (fun hC => Fx_f (Cd_ap hBox (by omega)) hF49 (by decide))
      refine jx_ld (pc_q := 22) (l_q := jSto1 L 4 (.int (i32 (r46)))) (st_q := []) rfl rfl ?_
      obtain ⟨L65, eL65⟩ : ∃ q, q = jSto1 L 4 (.int (i32 (r46))) := ⟨_, rfl⟩
      rw [← eL65]
      have gL65_0 : jGet L65 0 = some (.ref 66) := eL65 ▸ jg_ne (by decide) gL_0 rfl
      have gL65_1 : jGet L65 1 = some (.int (i32 (n))) := eL65 ▸ jg_ne (by decide) gL_1 rfl
      have gL65_2 : jGet L65 2 = some (.int (i32 (le))) := eL65 ▸ jg_ne (by decide) gL_2 rfl
      have gL65_3 : jGet L65 3 = some (.int (i32 (c))) := eL65 ▸ jg_ne (by decide) gL_3 rfl
      have gL65_4 : jGet L65 4 = some (.int (i32 (r46))) := eL65 ▸ jg_eq
      refine jx_ld (pc_q := 23) (l_q := L65) (st_q := [.ref 66]) rfl (jl_aloadn gL65_0) ?_
      refine jx_ld (pc_q := 24) (l_q := L65) (st_q := [.ref 66, .ref 66]) rfl (jl_aloadn gL65_0) ?_
      refine jr_get (pc_q := 27) (i := 34) (v := .ref 84) rfl rfl (by decide) rfl rfl ?_
      refine jx_ld (pc_q := 28) (l_q := L65) (st_q := [.int (i32 (c)), .ref 84, .ref 66]) rfl (jl_iloadn gL65_3) ?_
      have b66 : (-2147483648 : Int) ≤ T0 17 (c).toNat ∧ T0 17 (c).toNat ≤ 2147483647 := hWT.2 17 _
      refine jr_ldv (pc_q := 29) (i := 17) (m := 7000) (z := c) (y := T0 17 (c).toNat) rfl (by decide) rfl (by decide) (by omega) (by omega) rfl (show A45 17 (c).toNat = T0 17 (c).toNat from (congrFun ((hF49.2 17 rfl).trans ((hFx.2 17 rfl).trans (p_0 17 rfl))) _)) ?_
      refine jx_vr (pc_q := 32) (as := [.int (i32 (T0 17 (c).toNat))]) (st := []) rfl rfl rfl rfl ⟨rfl, rfl, Nat.le_of_ble_eq_true rfl⟩ rfl rfl (GE_all X 22 (dd := d) (hd := by omega) (hW := hW48) (e := T0 17 (c).toNat) (lo := c + 1) (hi := x) (st := st1) (e_st := show G44 70 = st1 from ((hF49.1 70 rfl).trans (ex_st1))) (lg := lg1) (e_lg := show G44 79 = lg1 from ((hF49.1 79 rfl).trans (ex_lg1))) (lb := lb2_47) (e_lb := show G44 77 = lb2_47 from (e51)) (nw := nw) (e_nw := show G44 81 = nw from ((hF49.1 81 rfl).trans (fx_81)))  (h_e := ⟨(Int.le_trans (by decide : (-2147483648 : Int) ≤ -2147483648) b66.1), (Int.le_trans b66.2 (by decide : (2147483647 : Int) ≤ 2147483647))⟩)  (p_0 := (TA_fr hF57 (by decide) p_0)) (p_1 := sf61) (p_2 := sf62) (p_3 := p_3) (p_4 := by omega) (p_5 := by omega) (p_6 := by omega) (p_7 := by omega) (p_8 := by omega) (p_9 := by omega) (p_10 := by omega) (p_11 := by omega) (p_12 := by omega) (p_13 := (wE_mono (by omega) (by omega) (by omega) i5)) (p_14 := by omega)) (fun o V_q hq => ?_)
      obtain ⟨G67, A68, st2_69, lg2_70, lb2_71, rfl, rfl, hW72, hF73, hQ74, e75, e76, e77, p78, p79, p80, p81, p82, p83, p84, p85, p86, -⟩ := hq
      have hF88 := Fr_tr hF57 hF73 (Fr_sub (by decide)) (Fr_sub (by decide))
      have hC89 := Fx_tr hC58 hQ74 (by omega)
      have hAl90 := Fx_f hAl59 hF73 (by decide)
      have hBp91 := Fx_f hBp60 hF73 (by decide)
      have sf92 := FA_fr (hF73.2 51 rfl) sf61
      have sf93 := SA_fr (hF73.2 13 rfl) sf62
      have bst2_69 : (-2147483648 : Int) ≤ st2_69 ∧ st2_69 ≤ 2147483647 := e75 ▸ hW72.1 70
      have blg2_70 : (0 : Int) ≤ lg2_70 ∧ lg2_70 ≤ 1 := e76 ▸ hW72.1 79
      have blb2_71 : (-2147483648 : Int) ≤ lb2_71 ∧ lb2_71 ≤ 2147483647 := e77 ▸ hW72.1 77
      refine .inl ⟨rfl, ?_⟩
      have sf94 : Cd (lg2_70 = 0 ∧ lb2_71 < 19999) (hIq T0 A68 Q k F Sn (nw) (le) (n) (c) (st) (st1) (lb + 1) (lb1)) := Cd_mk (fun hC => hIq_mv (Cg_fx (l0 := lb + 1) (l1 := lb1) hQ74 (Cd_ap p85 (by omega)) (by omega)) (by omega) (Cd_ap sf63 (by omega)))
      have hBo95 : Cd (lg2_70 = 0 ∧ lb2_71 < 19999) (Fx [50] (lb + 1) A A68) := Cd_mk (fun hC => Fx_tr (Cd_ap hBo64 (by omega)) (Cd_ap p85 (by omega)) (by omega))
      refine jx_ld (pc_q := 33) (l_q := L65) (st_q := [.ref 66]) rfl (jl_aloadn gL65_0) ?_
      refine jx_ar (pc_q := 35) (st_q := [.int (i32 (10)), .ref 66]) rfl rfl rfl rfl ?_
      refine jx_ld (pc_q := 37) (l_q := L65) (st_q := [.int (i32 (r46)), .int (i32 (10)), .ref 66]) rfl (jl_iload gL65_4) ?_
      refine jx_ar (pc_q := 38) (st_q := [.int (i32 (0)), .int (i32 (r46)), .int (i32 (10)), .ref 66]) rfl rfl rfl rfl ?_
      refine jx_vr (pc_q := 41) (as := [.int (i32 (10)), .int (i32 (r46)), .int (i32 (0))]) (st := []) rfl rfl rfl rfl ⟨rfl, rfl, Nat.le_of_ble_eq_true rfl⟩ rfl rfl (c_way (dd := d) (hd := by omega) (hW := hW72) (fn := 10) (to := r46) (fr := 0) (st := st2_69) (e_st := show G67 70 = st2_69 from (e75)) (lg := lg2_70) (e_lg := show G67 79 = lg2_70 from (e76))  (h_fn := ⟨(by decide), (by decide)⟩) (h_to := ⟨(Int.le_trans (by decide : (-2147483648 : Int) ≤ -2147483648) b50.1), (Int.le_trans b50.2 (by decide : (2147483647 : Int) ≤ 2147483647))⟩) (h_fr := ⟨(by decide), (by decide)⟩)  (p_0 := by omega) (p_1 := by omega)) (fun o V_q hq => ?_)
      obtain ⟨G96, A97, st2_98, lg2_99, rfl, rfl, hW100, hF101, hQ102, e103, e104, p105, p106, p107, p108, p109, p110, -⟩ := hq
      have hF112 := Fr_tr hF88 hF101 (Fr_sub (by decide)) (Fr_sub (by decide))
      have hC113 := Fx_tr hC89 hQ102 (by omega)
      have hAl114 := Fx_f hAl90 hF101 (by decide)
      have hBp115 := Fx_f hBp91 hF101 (by decide)
      have sf116 := FA_fr (hF101.2 51 rfl) sf92
      have sf117 := SA_fr (hF101.2 13 rfl) sf93
      have bst2_98 : (-2147483648 : Int) ≤ st2_98 ∧ st2_98 ≤ 2147483647 := e103 ▸ hW100.1 70
      have blg2_99 : (0 : Int) ≤ lg2_99 ∧ lg2_99 ≤ 1 := e104 ▸ hW100.1 79
      refine .inl ⟨rfl, ?_⟩
      have sf118 : Cd (lg2_99 = 0 ∧ lb2_71 < 19999) (hIq T0 A97 Q k F Sn (nw) (le) (n) (c) (st) (st1) (lb + 1) (lb1)) := Cd_mk (fun hC => hIq_mv (Cg_fx (l0 := lb + 1) (l1 := lb1) hQ102 (Fx_f (w := lb1 + 1) Fx_rf hF101 (by decide)) (by omega)) (by omega) (Cd_ap sf94 (by omega)))
      have sf119 : Cd (lg2_99 = 0 ∧ lb2_71 < 19999) (gE T0 A97 F Sn nw (22) (T0 17 (c).toNat) (st1) (st2_69) (lb2_47) (lb2_71)) := Cd_mk (fun hC => gE_mv (Cg_fx (l0 := lb2_47) (l1 := lb2_71) hQ102 (Fx_f (w := lb2_71 + 1) Fx_rf hF101 (by decide)) (by omega)) (by omega) (Cd_ap p86 (by omega)))
      have hBo120 : Cd (lg2_99 = 0 ∧ lb2_71 < 19999) (Fx [50] (lb + 1) A A97) := Cd_mk (fun hC => Fx_f (Cd_ap hBo95 (by omega)) hF101 (by decide))
      refine jx_ld (pc_q := 42) (l_q := L65) (st_q := [.ref 66]) rfl (jl_aloadn gL65_0) ?_
      refine jx_ld (pc_q := 43) (l_q := L65) (st_q := [.ref 66, .ref 66]) rfl (jl_aloadn gL65_0) ?_
      refine jr_get (pc_q := 46) (i := 38) (v := .ref 88) rfl rfl (by decide) rfl rfl ?_
      refine jx_ld (pc_q := 47) (l_q := L65) (st_q := [.int (i32 (c)), .ref 88, .ref 66]) rfl (jl_iloadn gL65_3) ?_
      have b121 : (-2147483648 : Int) ≤ T0 21 (c).toNat ∧ T0 21 (c).toNat ≤ 2147483647 := hWT.2 21 _
      refine jr_ldv (pc_q := 48) (i := 21) (m := 7000) (z := c) (y := T0 21 (c).toNat) rfl (by decide) rfl (by decide) (by omega) (by omega) rfl (show A97 21 (c).toNat = T0 21 (c).toNat from (congrFun ((hF101.2 21 rfl).trans ((hF73.2 21 rfl).trans ((hF49.2 21 rfl).trans ((hFx.2 21 rfl).trans (p_0 21 rfl))))) _)) ?_
      refine jx_vr (pc_q := 51) (as := [.int (i32 (T0 21 (c).toNat))]) (st := []) rfl rfl rfl rfl ⟨rfl, rfl, Nat.le_of_ble_eq_true rfl⟩ rfl rfl (hN (dd := d) (hd := by omega) (hW := hW100) (p := T0 21 (c).toNat) (lo := x) (hi := m1) (s0 := gt) (s1 := t1) (fr := fr) (z := z) (D := D) (bd := b1) (st := st2_98) (e_st := show G96 70 = st2_98 from (e103)) (lg := lg2_99) (e_lg := show G96 79 = lg2_99 from (e104)) (lb := lb2_71) (e_lb := show G96 77 = lb2_71 from ((hF101.1 77 rfl).trans (e77))) (nw := nw) (e_nw := show G96 81 = nw from ((hF101.1 81 rfl).trans ((hF73.1 81 rfl).trans ((hF49.1 81 rfl).trans (fx_81))))) (al := al) (e_al := show G96 89 = al from ((hF101.1 89 rfl).trans ((hF73.1 89 rfl).trans ((hF49.1 89 rfl).trans (fx_89))))) (fw := fw1) (e_fw := show A97 51 (nw).toNat = fw1 from (congrFun ((hF101.2 51 rfl).trans ((hF73.2 51 rfl).trans (hF49.2 51 rfl))) _).trans (ex_fw1))  (h_p := ⟨(Int.le_trans (by decide : (-2147483648 : Int) ≤ -2147483648) b121.1), (Int.le_trans b121.2 (by decide : (2147483647 : Int) ≤ 2147483647))⟩)  (p_0 := (TA_fr hF112 (by decide) p_0)) (p_1 := sf116) (p_2 := sf117) (p_3 := p_3) (p_4 := by omega) (p_5 := by omega) (p_6 := by omega) (p_7 := by omega) (p_8 := by omega) (p_9 := by omega) (p_10 := by omega) (p_11 := by omega) (p_12 := by omega) (p_13 := by omega) (p_14 := by omega) (p_15 := by omega) (p_16 := by omega) (p_17 := i6) (p_18 := (VB_mo p_20 (by omega))) (p_19 := hly) (p_20 := hb1) (p_21 := by omega) (p_22 := by omega) (p_23 := by omega) (p_24 := by omega) (p_25 := by omega) (p_26 := by omega) (p_27 := by omega) (p_28 := p_30) (p_29 := (PA_fr (hF112.2 52 rfl) p_31))) (fun o V_q hq => ?_)
      obtain ⟨G122, A123, st2_124, lg2_125, lb2_126, nw2_127, al2_128, fw2_129, rfl, rfl, hW130, hF131, hQ132, hQ133, hQ134, e135, e136, e137, e138, e139, e140, p141, p142, p143, p144, p145, p146, p147, p148, p149, p150, p151, p152, p153, p154, -⟩ := hq
      have hF156 := Fr_tr hF112 hF131 (Fr_sub (by decide)) (Fr_sub (by decide))
      have hC157 := Fx_tr hC113 hQ132 (by omega)
      have hAl158 := Fx_tr hAl114 hQ133 (by omega)
      have hBp159 := Fx_tr hBp115 hQ134 (by omega)
      have bst2_124 : (-2147483648 : Int) ≤ st2_124 ∧ st2_124 ≤ 2147483647 := e135 ▸ hW130.1 70
      have blg2_125 : (0 : Int) ≤ lg2_125 ∧ lg2_125 ≤ 1 := e136 ▸ hW130.1 79
      have blb2_126 : (-2147483648 : Int) ≤ lb2_126 ∧ lb2_126 ≤ 2147483647 := e137 ▸ hW130.1 77
      have bnw2_127 : (-2147483648 : Int) ≤ nw2_127 ∧ nw2_127 ≤ 2147483647 := e138 ▸ hW130.1 81
      have bal2_128 : (-2147483648 : Int) ≤ al2_128 ∧ al2_128 ≤ 2147483647 := e139 ▸ hW130.1 89
      have bfw2_129 : (-2147483648 : Int) ≤ fw2_129 ∧ fw2_129 ≤ 2147483647 := e140 ▸ hW130.2 51 _
      refine .inl ⟨rfl, ?_⟩
      have sf160 : Cd (lg2_125 = 0 ∧ lb2_126 < 19999) (hIq T0 A123 Q k F Sn (nw) (le) (n) (c) (st) (st1) (lb + 1) (lb1)) := Cd_mk (fun hC => hIq_mv (Cg_fx (l0 := lb + 1) (l1 := lb1) hQ132 (Cd_ap p148 (by omega)) (by omega)) (by omega) (Cd_ap sf118 (by omega)))
      have sf161 : Cd (lg2_125 = 0 ∧ lb2_126 < 19999) (gE T0 A123 F Sn nw (22) (T0 17 (c).toNat) (st1) (st2_69) (lb2_47) (lb2_71)) := Cd_mk (fun hC => gE_mv (Cg_fx (l0 := lb2_47) (l1 := lb2_71) hQ132 (Cd_ap p148 (by omega)) (by omega)) (by omega) (Cd_ap sf119 (by omega)))
      have sf162 : Cd (lg2_125 = 0 ∧ lb2_126 < 19999) (WY A123 (st2_69) (st2_98) (10) (r46) (0)) := Cd_mk (fun hC => WY_mv (Cg_fx (l0 := 0) (l1 := 0) hQ132 (Cd_ap p148 (by omega)) (by omega)) (by omega) (Cd_ap p110 (by omega)))
      have hBo163 : Cd (lg2_125 = 0 ∧ lb2_126 < 19999) (Fx [50] (lb + 1) A A123) := Cd_mk (fun hC => Fx_tr (Cd_ap hBo120 (by omega)) (Cd_ap p148 (by omega)) (by omega))
      refine jx_ld (pc_q := 52) (l_q := L65) (st_q := [.ref 66]) rfl (jl_aloadn gL65_0) ?_
      refine jx_ar (pc_q := 53) (st_q := [.int (i32 (0)), .ref 66]) rfl rfl rfl rfl ?_
      refine jx_ld (pc_q := 54) (l_q := L65) (st_q := [.int (i32 (le)), .int (i32 (0)), .ref 66]) rfl (jl_iloadn gL65_2) ?_
      refine jx_ar (pc_q := 55) (st_q := [.int (i32 (0)), .int (i32 (le)), .int (i32 (0)), .ref 66]) rfl rfl rfl rfl ?_
      refine jx_vr (pc_q := 58) (as := [.int (i32 (0)), .int (i32 (le)), .int (i32 (0))]) (st := []) rfl rfl rfl rfl ⟨rfl, rfl, Nat.le_of_ble_eq_true rfl⟩ rfl rfl (c_way (dd := d) (hd := by omega) (hW := hW130) (fn := 0) (to := le) (fr := 0) (st := st2_124) (e_st := show G122 70 = st2_124 from (e135)) (lg := lg2_125) (e_lg := show G122 79 = lg2_125 from (e136))  (h_fn := ⟨(by decide), (by decide)⟩) (h_to := ⟨(Int.le_trans (by decide : (-2147483648 : Int) ≤ -2147483648) rx_le.1), (Int.le_trans rx_le.2 (by decide : (2147483647 : Int) ≤ 2147483647))⟩) (h_fr := ⟨(by decide), (by decide)⟩)  (p_0 := by omega) (p_1 := by omega)) (fun o V_q hq => ?_)
      obtain ⟨G164, A165, st2_166, lg2_167, rfl, rfl, hW168, hF169, hQ170, e171, e172, p173, p174, p175, p176, p177, p178, -⟩ := hq
      have hF180 := Fr_tr hF156 hF169 (Fr_sub (by decide)) (Fr_sub (by decide))
      have hC181 := Fx_tr hC157 hQ170 (by omega)
      have hAl182 := Fx_f hAl158 hF169 (by decide)
      have hBp183 := Fx_f hBp159 hF169 (by decide)
      have sf184 := FA_fr (hF169.2 51 rfl) p152
      have sf185 := SA_fr (hF169.2 13 rfl) p153
      have bst2_166 : (-2147483648 : Int) ≤ st2_166 ∧ st2_166 ≤ 2147483647 := e171 ▸ hW168.1 70
      have blg2_167 : (0 : Int) ≤ lg2_167 ∧ lg2_167 ≤ 1 := e172 ▸ hW168.1 79
      refine .inl ⟨rfl, ?_⟩
      have sf186 : Cd (lg2_167 = 0 ∧ lb2_126 < 19999) (hIq T0 A165 Q k F Sn (nw) (le) (n) (c) (st) (st1) (lb + 1) (lb1)) := Cd_mk (fun hC => hIq_mv (Cg_fx (l0 := lb + 1) (l1 := lb1) hQ170 (Fx_f (w := lb1 + 1) Fx_rf hF169 (by decide)) (by omega)) (by omega) (Cd_ap sf160 (by omega)))
      have sf187 : Cd (lg2_167 = 0 ∧ lb2_126 < 19999) (gE T0 A165 F Sn nw (22) (T0 17 (c).toNat) (st1) (st2_69) (lb2_47) (lb2_71)) := Cd_mk (fun hC => gE_mv (Cg_fx (l0 := lb2_47) (l1 := lb2_71) hQ170 (Fx_f (w := lb2_71 + 1) Fx_rf hF169 (by decide)) (by omega)) (by omega) (Cd_ap sf161 (by omega)))
      have sf188 : Cd (lg2_167 = 0 ∧ lb2_126 < 19999) (WY A165 (st2_69) (st2_98) (10) (r46) (0)) := Cd_mk (fun hC => WY_mv (Cg_fx (l0 := 0) (l1 := 0) hQ170 (Fx_f (w := 0 + 1) Fx_rf hF169 (by decide)) (by omega)) (by omega) (Cd_ap sf162 (by omega)))
      have sf189 : Cd (lg2_167 = 0 ∧ lb2_126 < 19999) (gP T0 A165 Q (k) (F) (Sn) (nw) (T0 21 (c).toNat) (st2_98) (st2_124) (lb2_71) (lb2_126)) := Cd_mk (fun hC => gP_mv (Cg_fx (l0 := lb2_71) (l1 := lb2_126) hQ170 (Fx_f (w := lb2_126 + 1) Fx_rf hF169 (by decide)) (by omega)) (by omega) (Cd_ap p154 (by omega)))
      have hBo190 : Cd (lg2_167 = 0 ∧ lb2_126 < 19999) (Fx [50] (lb + 1) A A165) := Cd_mk (fun hC => Fx_f (Cd_ap hBo163 (by omega)) hF169 (by decide))
      refine jx_ld (pc_q := 59) (l_q := L65) (st_q := [.ref 66]) rfl (jl_aloadn gL65_0) ?_
      refine jx_ld (pc_q := 61) (l_q := L65) (st_q := [.int (i32 (r46)), .ref 66]) rfl (jl_iload gL65_4) ?_
      refine jx_vr (pc_q := 64) (as := [.int (i32 (r46))]) (st := []) rfl rfl rfl rfl ⟨rfl, rfl, Nat.le_of_ble_eq_true rfl⟩ rfl rfl (c_set (dd := d) (hd := by omega) (hW := hW168) (l := r46) (st := st2_166) (e_st := show G164 70 = st2_166 from (e171))  (h_l := ⟨(Int.le_trans (by decide : (-2147483648 : Int) ≤ -2147483648) b50.1), (Int.le_trans b50.2 (by decide : (2147483647 : Int) ≤ 2147483647))⟩)  (p_0 := by omega) (p_1 := by omega)) (fun o V_q hq => ?_)
      obtain ⟨G191, A192, ls2_193, rfl, rfl, hW194, hF195, e196, p197, q198⟩ := hq
      have hF199 := Fr_tr hF180 hF195 (Fr_sub (by decide)) (Fr_sub (by decide))
      have hC200 := Fx_f hC181 hF195 (by decide)
      have hAl201 := Fx_f hAl182 hF195 (by decide)
      have hBp202 := Fx_f hBp183 hF195 (by decide)
      have bls2_193 : (-2147483648 : Int) ≤ ls2_193 ∧ ls2_193 ≤ 2147483647 := e196 ▸ hW194.2 50 _
      refine .inl ⟨rfl, ?_⟩
      have a203 := q198
      have sf204 := FA_fr ((congrFun a203 51).trans (uA_ne (by decide))) sf184
      have sf205 := SA_fr ((congrFun a203 13).trans (uA_ne (by decide))) sf185
      have sf206 : Cd (lg2_167 = 0 ∧ lb2_126 < 19999) (hIq T0 A192 Q k F Sn (nw) (le) (n) (c) (st) (st1) (lb + 1) (lb1)) := Cd_mk (fun hC => hIq_mv (Cg_set (K := st1) a203 (by omega) (by have hr := Cd_ap p55 (by omega); omega)) (Int.le_refl _) (Cd_ap sf186 (by omega)))
      have sf207 : Cd (lg2_167 = 0 ∧ lb2_126 < 19999) (gE T0 A192 F Sn nw (22) (T0 17 (c).toNat) (st1) (st2_69) (lb2_47) (lb2_71)) := Cd_mk (fun hC => gE_mv (Cg_set (K := st2_69) a203 (by omega) (by have hr := Cd_ap p55 (by omega); omega)) (Int.le_refl _) (Cd_ap sf187 (by omega)))
      have sf208 : Cd (lg2_167 = 0 ∧ lb2_126 < 19999) (WY A192 (st2_69) (st2_98) (10) (r46) (0)) := Cd_mk (fun hC => WY_mv (Cg_set (K := st2_98) (l0 := r46) (l1 := r46) a203 (by omega) (by omega)) (Int.le_refl _) (Cd_ap sf188 (by omega)))
      have sf209 : Cd (lg2_167 = 0 ∧ lb2_126 < 19999) (gP T0 A192 Q (k) (F) (Sn) (nw) (T0 21 (c).toNat) (st2_98) (st2_124) (lb2_71) (lb2_126)) := Cd_mk (fun hC => gP_mv (Cg_set (K := st2_124) a203 (by omega) (by have hr := Cd_ap p55 (by omega); omega)) (Int.le_refl _) (Cd_ap sf189 (by omega)))
      have sf210 : Cd (lg2_167 = 0 ∧ lb2_126 < 19999) (WY A192 (st2_124) (st2_166) (0) (le) (0)) := Cd_mk (fun hC => WY_mv (Cg_set (K := st2_166) (l0 := r46) (l1 := r46) a203 (by omega) (by omega)) (Int.le_refl _) (Cd_ap p178 (by omega)))
      have hBo211 : Cd (lg2_167 = 0 ∧ lb2_126 < 19999) (Fx [50] (lb + 1) A A192) := Cd_mk (fun hC => Fx_u a203 (Cd_ap hBo190 (by omega)) (by omega) (by have hr := Cd_ap p55 (by omega); omega))
      refine jx_ld (pc_q := 65) (l_q := L65) (st_q := [.ref 66]) rfl (jl_aloadn gL65_0) ?_
      refine jr_get (pc_q := 68) (i := 39) (v := .ref 89) rfl rfl (by decide) rfl rfl ?_
      refine jx_ld (pc_q := 69) (l_q := L65) (st_q := [.int (i32 (c)), .ref 89]) rfl (jl_iloadn gL65_3) ?_
      have b212 : (-2147483648 : Int) ≤ T0 22 (c).toNat ∧ T0 22 (c).toNat ≤ 2147483647 := hWT.2 22 _
      refine jr_ldv (pc_q := 70) (i := 22) (m := 7000) (z := c) (y := T0 22 (c).toNat) rfl (by decide) rfl (by decide) (by omega) (by omega) rfl (show A192 22 (c).toNat = T0 22 (c).toNat from (congrFun ((hF195.2 22 rfl).trans ((hF169.2 22 rfl).trans ((hF131.2 22 rfl).trans ((hF101.2 22 rfl).trans ((hF73.2 22 rfl).trans ((hF49.2 22 rfl).trans ((hFx.2 22 rfl).trans (p_0 22 rfl)))))))) _)) ?_
      refine jx_ld (pc_q := 71) (l_q := jSto1 L65 3 (.int (i32 (T0 22 (c).toNat)))) (st_q := []) rfl rfl ?_
      obtain ⟨L213, eL213⟩ : ∃ q, q = jSto1 L65 3 (.int (i32 (T0 22 (c).toNat))) := ⟨_, rfl⟩
      rw [← eL213]
      have gL213_0 : jGet L213 0 = some (.ref 66) := eL213 ▸ jg_ne (by decide) gL65_0 rfl
      have gL213_1 : jGet L213 1 = some (.int (i32 (n))) := eL213 ▸ jg_ne (by decide) gL65_1 rfl
      have gL213_2 : jGet L213 2 = some (.int (i32 (le))) := eL213 ▸ jg_ne (by decide) gL65_2 rfl
      have gL213_4 : jGet L213 4 = some (.int (i32 (r46))) := eL213 ▸ jg_ne (by decide) gL65_4 rfl
      have gL213_3 : jGet L213 3 = some (.int (i32 (T0 22 (c).toNat))) := eL213 ▸ jg_eq
      refine jx_go (tg := 12) rfl rfl ?_
      exact ih12 _ (by omega) L213 G191 A192 (le) (T0 22 (c).toNat) (st2_166) (lg2_167) (lb2_126) (fw2_129) (m1) (t1) (b2) rfl gL213_0 gL213_1 gL213_2 gL213_3 hW194 hF199 hC200 hAl201 hBp202 (Cd_mk (fun hC => Cd_ap hBo211 (by omega))) (((hF195.1 70 rfl).trans (e171))) (((hF195.1 79 rfl).trans (e172))) (((hF195.1 77 rfl).trans ((hF169.1 77 rfl).trans (e137)))) ((congrFun ((hF195.2 51 rfl).trans (hF169.2 51 rfl)) _).trans (e140)) (Eq.trans (show G191 81 = nw2_127 from ((hF195.1 81 rfl).trans ((hF169.1 81 rfl).trans (e138)))) (by omega)) (Eq.trans (show G191 89 = al2_128 from ((hF195.1 89 rfl).trans ((hF169.1 89 rfl).trans (e139)))) (by omega)) (by omega) (by omega) (by omega) (by omega) (by omega) (by omega) (by omega) ((Cd_mk (fun hC => by have := Cd_ap iv_5 (by omega); have := Cd_ap p83 (by omega); have := Cd_ap p146 (by omega); omega))) (by omega) (hb2) (by omega) (by omega) ((Cd_mk (fun hC => (by have hr := Cd_ap iv_10 (by omega); omega)))) (by omega) (by omega) (by omega) (by omega) (by omega) (sf204) (sf205) ((hnx (fun _ => True) trivial)) ((Cd_mk (fun hC => (gQ_nx (Cd_ap sf206 (by omega)) (by omega) rfl (by omega) ⟨_, _, _, lb2_47, lb2_71, by omega, by omega, by omega, (Cd_ap sf207 (by omega)), JP_ls (Cd_ap sf208 (by omega)) (LZ_mk (l0 := lb1) (l1 := lb2_47) (by omega) (by have hr := Cd_ap p55 (by omega); omega) (by have hr := Cd_ap p55 (by omega); omega) ((show A192 50 (r46).toNat = ls2_193 from (e196)).trans (by omega))), (Cd_ap sf209 (by omega)), (Cd_ap sf210 (by omega))⟩))))
set_option maxRecDepth 20000 in
set_option maxHeartbeats 4000000 in
theorem c_genIf {X : jX} {k : Nat} (hN : GN X k) {dd : Nat} {T0 : Nat → Nat → Int} {Q F Sn : Int → Int} {Vs : Nat → Prop} {sb pb : Int} {c0 c1 : jC} {G : Nat → Int} {A : Nat → Nat → Int} {T : jH} {n : Int} {hi s0 s1 fr z D bd : Int} {st lg lb nw al fw : Int} (hd : 2 * k + 63 ≤ dd) (hW : Wk G A) (e_st : G 70 = st) (e_lg : G 79 = lg) (e_lb : G 77 = lb) (e_nw : G 81 = nw) (e_al : G 89 = al) (e_fw : A 51 (nw).toNat = fw) (h_n : (-2147483648 : Int) ≤ n ∧ n ≤ 2147483647) (p_0 : TA T0 A) (p_1 : FA F (nw) A) (p_2 : SA T0 Vs Sn A) (p_3 : VW T0 Vs (nw)) (p_4 : 0 ≤ nw) (p_5 : nw + (k : Int) ≤ 38) (p_6 : 0 ≤ al) (p_7 : al + (k : Int) ≤ 38) (p_8 : 0 ≤ st) (p_9 : st ≤ 7000) (p_10 : 0 ≤ lb) (p_11 : lb + bd + 7000 - st ≤ 1900000000) (p_12 : hi ≤ 6999) (p_13 : sb ≤ 202) (p_14 : 0 ≤ n) (p_15 : n < hi) (p_16 : 0 ≤ s0) (p_17 : s0 ≤ s1) (p_18 : s1 ≤ sb) (p_19 : LQ T0 (wI T0 Vs sb (wP T0 sb pb k Vs)) (fun _ => True) (n) (T0 21 (n).toNat) (n + 1) (hi) (s0) (s1) (n + 1) (s0)) (p_20 : VB (Vs) (s0)) (p_21 : (∀ l, CH T0 (T0 21 (n).toNat) l → ∀ c ∈ l, lI T0 (lP T0 k) (fr) (nw) (z) (D) c)) (p_22 : WB (n) (hi) (bd)) (p_23 : 1 ≤ fr) (p_24 : z ≤ 4000) (p_25 : 0 ≤ D) (p_26 : D ≤ 4000) (p_27 : -4000 ≤ fw - D) (p_28 : fw ≤ 0) (p_29 : pb ≤ 24) (p_30 : PV T0 pb) (p_31 : PA Q pb A) : wk X dd 357 [.ref 66, .int (i32 n)] (rV c0 c1 G A T) (fun o V_q => ∃ (G_q : Nat → Int) (A_q : Nat → Nat → Int) (st2 : Int) (lg2 : Int) (lb2 : Int) (nw2 : Int) (al2 : Int) (fw2 : Int), V_q = rV c0 c1 G_q A_q T ∧ o = .inl none ∧ Wk G_q A_q ∧ Fr [70, 77, 79, 81, 89] [13, 44, 45, 46, 47, 50, 51, 56, 57, 58] G A G_q A_q ∧ Fx [44, 45, 46, 47] (st) A A_q ∧ Fx [58] (8 * al) A A_q ∧ Fx [56, 57] (8 * nw) A A_q ∧ G_q 70 = st2 ∧ G_q 79 = lg2 ∧ G_q 77 = lb2 ∧ G_q 81 = nw2 ∧ G_q 89 = al2 ∧ A_q 51 (nw).toNat = fw2 ∧ (st ≤ st2) ∧ (st2 ≤ 7000) ∧ (lg ≤ lg2) ∧ (lg2 ≤ 1) ∧ (lb ≤ lb2) ∧ (Cd (lg2 = 0) (lb2 - lb ≤ st2 - st)) ∧ (lb2 - lb ≤ st2 - st + bd) ∧ (Cd (lg2 = 0 ∧ lb2 < 19999) (Fx [50] (lb + 1) A A_q)) ∧ (nw2 = nw) ∧ (al2 = al) ∧ (fw2 = fw) ∧ (FA F (nw) A_q) ∧ (SA T0 Vs Sn A_q) ∧ (Cd (lg2 = 0 ∧ lb2 < 19999) (gIf T0 A_q F Sn nw (gP T0 A_q Q k F Sn nw) (n) (st) (st2) (lb) (lb2))) ∧ True) := by
  obtain ⟨d, rfl⟩ : ∃ d, dd = d + 1 := ⟨dd - 1, by omega⟩
  refine wk_of (e := jm357) rfl (Nat.le_of_ble_eq_true rfl) ?_
  show wj X d jm357 (0, [(0, .ref 66), (1, .int (i32 (n)))], [], rV c0 c1 G A T) _
  have hF0 : Fr [70, 77, 79, 81, 89] [13, 44, 45, 46, 47, 50, 51, 56, 57, 58] G A G A := Fr_rf
  have hC0 : Fx [44, 45, 46, 47] (st) A A := Fx_rf
  have hAl0 : Fx [58] (8 * al) A A := Fx_rf
  have hBp0 : Fx [56, 57] (8 * nw) A A := Fx_rf
  have b_st : (-2147483648 : Int) ≤ st ∧ st ≤ 2147483647 := e_st ▸ hW.1 70
  have b_lg : (0 : Int) ≤ lg ∧ lg ≤ 1 := e_lg ▸ hW.1 79
  have b_lb : (-2147483648 : Int) ≤ lb ∧ lb ≤ 2147483647 := e_lb ▸ hW.1 77
  have b_nw : (-2147483648 : Int) ≤ nw ∧ nw ≤ 2147483647 := e_nw ▸ hW.1 81
  have b_al : (-2147483648 : Int) ≤ al ∧ al ≤ 2147483647 := e_al ▸ hW.1 89
  have b_fw : (-2147483648 : Int) ≤ fw ∧ fw ≤ 2147483647 := e_fw ▸ hW.2 51 _
  have hWT := TA_w hW p_0
  have hBo0 : Cd (lg = 0 ∧ lb < 19999) (Fx [50] (lb + 1) A A) := Cd_mk (fun _ => Fx_rf)
  have hfw := FA_at p_1 p_4 e_fw
  have hbp := WB_p p_22 (by omega) (by omega) (by omega)
  refine jx_ld (pc_q := 1) (l_q := [(0, .ref 66), (1, .int (i32 (n)))]) (st_q := [.ref 66]) rfl (jl_aloadn rfl) ?_
  refine jx_vr (pc_q := 4) (as := []) (st := []) rfl rfl rfl rfl ⟨rfl, rfl, Nat.le_of_ble_eq_true rfl⟩ rfl rfl (c_label (dd := d) (hd := by omega) (hW := hW)  (lb := lb) (e_lb := show G 77 = lb from (e_lb))    (p_0 := by omega) (p_1 := by omega)) (fun o V_q hq => ?_)
  obtain ⟨G214, A215, r216, lb2_217, rfl, rfl, hW218, hF219, b220, e221, p222, p223, p224, p225, -⟩ := hq
  have hF227 := Fr_tr hF0 hF219 (Fr_sub (by decide)) (Fr_sub (by decide))
  have hC228 := Fx_f hC0 hF219 (by decide)
  have hAl229 := Fx_f hAl0 hF219 (by decide)
  have hBp230 := Fx_f hBp0 hF219 (by decide)
  have sf231 := FA_fr (hF219.2 51 rfl) p_1
  have sf232 := SA_fr (hF219.2 13 rfl) p_2
  have blb2_217 : (-2147483648 : Int) ≤ lb2_217 ∧ lb2_217 ≤ 2147483647 := e221 ▸ hW218.1 77
  refine .inr ⟨_, rfl, ?_⟩
  have hBo233 : Cd (lg = 0 ∧ lb2_217 < 19999) (Fx [50] (lb + 1) A A215) := Cd_mk (fun hC => Fx_f (Cd_ap hBo0 (by omega)) hF219 (by decide))
  refine jx_ld (pc_q := 5) (l_q := jSto1 [(0, .ref 66), (1, .int (i32 (n)))] 2 (.int (i32 (r216)))) (st_q := []) rfl rfl ?_
  obtain ⟨L234, eL234⟩ : ∃ q, q = jSto1 [(0, .ref 66), (1, .int (i32 (n)))] 2 (.int (i32 (r216))) := ⟨_, rfl⟩
  rw [← eL234]
  have gL234_0 : jGet L234 0 = some (.ref 66) := eL234 ▸ jg_ne (by decide) (rfl : jGet [(0, .ref 66), (1, .int (i32 (n)))] 0 = some (.ref 66)) rfl
  have gL234_1 : jGet L234 1 = some (.int (i32 (n))) := eL234 ▸ jg_ne (by decide) (rfl : jGet [(0, .ref 66), (1, .int (i32 (n)))] 1 = some (.int (i32 (n)))) rfl
  have gL234_2 : jGet L234 2 = some (.int (i32 (r216))) := eL234 ▸ jg_eq
  have _q : True := trivial
  refine jx_ld (pc_q := 6) (l_q := L234) (st_q := [.ref 66]) rfl (jl_aloadn gL234_0) ?_
  refine jr_get (pc_q := 9) (i := 38) (v := .ref 88) rfl rfl (by decide) rfl rfl ?_
  refine jx_ld (pc_q := 10) (l_q := L234) (st_q := [.int (i32 (n)), .ref 88]) rfl (jl_iloadn gL234_1) ?_
  have b235 : (-2147483648 : Int) ≤ T0 21 (n).toNat ∧ T0 21 (n).toNat ≤ 2147483647 := hWT.2 21 _
  refine jr_ldv (pc_q := 11) (i := 21) (m := 7000) (z := n) (y := T0 21 (n).toNat) rfl (by decide) rfl (by decide) (by omega) (by omega) rfl (show A215 21 (n).toNat = T0 21 (n).toNat from (congrFun ((hF219.2 21 rfl).trans (p_0 21 rfl)) _)) ?_
  refine jx_ld (pc_q := 12) (l_q := jSto1 L234 3 (.int (i32 (T0 21 (n).toNat)))) (st_q := []) rfl rfl ?_
  obtain ⟨L236, eL236⟩ : ∃ q, q = jSto1 L234 3 (.int (i32 (T0 21 (n).toNat))) := ⟨_, rfl⟩
  rw [← eL236]
  have gL236_0 : jGet L236 0 = some (.ref 66) := eL236 ▸ jg_ne (by decide) gL234_0 rfl
  have gL236_1 : jGet L236 1 = some (.int (i32 (n))) := eL236 ▸ jg_ne (by decide) gL234_1 rfl
  have gL236_2 : jGet L236 2 = some (.int (i32 (r216))) := eL236 ▸ jg_ne (by decide) gL234_2 rfl
  have gL236_3 : jGet L236 3 = some (.int (i32 (T0 21 (n).toNat))) := eL236 ▸ jg_eq
  exact c_genIf_at_12 (X := X) (k := k) (hN := hN) (d := d) (T0 := T0) (Q := Q) (F := F) (Sn := Sn) (Vs := Vs) (sb := sb) (pb := pb) (c0 := c0) (c1 := c1) (G := G) (A := A) (T := T) (n := n) (hi := hi) (s0 := s0) (s1 := s1) (fr := fr) (z := z) (D := D) (bd := bd) (st := st) (lg := lg) (lb := lb) (nw := nw) (al := al) (fw := fw) (hd := hd) (hW := hW) (e_st := e_st) (e_lg := e_lg) (e_lb := e_lb) (e_nw := e_nw) (e_al := e_al) (e_fw := e_fw) (h_n := h_n) (p_0 := p_0) (p_1 := p_1) (p_2 := p_2) (p_3 := p_3) (p_4 := p_4) (p_5 := p_5) (p_6 := p_6) (p_7 := p_7) (p_8 := p_8) (p_9 := p_9) (p_10 := p_10) (p_11 := p_11) (p_12 := p_12) (p_13 := p_13) (p_14 := p_14) (p_15 := p_15) (p_16 := p_16) (p_17 := p_17) (p_18 := p_18) (p_19 := p_19) (p_20 := p_20) (p_21 := p_21) (p_22 := p_22) (p_23 := p_23) (p_24 := p_24) (p_25 := p_25) (p_26 := p_26) (p_27 := p_27) (p_28 := p_28) (p_29 := p_29) (p_30 := p_30) (p_31 := p_31) _ L236 G214 A215 (r216) (T0 21 (n).toNat) (st) (lg) (lb2_217) (fw) (n + 1) (s0) (0) rfl gL236_0 gL236_1 gL236_2 gL236_3 hW218 hF227 hC228 hAl229 hBp230 (Cd_mk (fun hC => Cd_ap hBo233 (by omega))) (((hF219.1 70 rfl).trans (e_st))) (((hF219.1 79 rfl).trans (e_lg))) ((e221)) ((congrFun (hF219.2 51 rfl) _).trans (e_fw)) (((hF219.1 81 rfl).trans (e_nw))) (((hF219.1 89 rfl).trans (e_al))) (by omega) (by omega) (by omega) (by omega) (by omega) (by omega) (by omega) ((Cd_mk (fun hC => by omega))) (by omega) ((show (0 : Int) = 200000 * (_ - _) by omega)) (by omega) (by omega) ((Cd_mk (fun hC => (by have hr := Cd_ap p225 (by omega); omega)))) (by omega) (by omega) (by omega) (by omega) (by omega) (sf231) (sf232) (p_19) ((Cd_mk (fun hC => (gQ_0 (LQ_ch p_19) (by omega) (by omega) (by omega)))))
