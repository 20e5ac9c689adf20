/-- a FOR before its test; as far as its process -/
def gF1 (T C : Nat → Nat → Int) (F S : Int → Int) (nw p k k_q l0 l1 : Int) : Prop := ∃ a b c m : Int, l0 ≤ m ∧ m ≤ l1 ∧ gE T C F S nw 22 (T 19 p.toNat) k a l0 m ∧ ST C a b 13 (T 9 (T 17 p.toNat).toNat) ∧ gE T C F S nw 22 (T 20 p.toNat) b c m l1 ∧ ST C c k_q 13 (T 9 (T 17 p.toNat).toNat + 1)
theorem gF1_mv {T C C_q : Nat → Nat → Int} {F S : Int → Int} {K nw p k k_q l0 l1 : Int} (g : Cg K l0 l1 C C_q) (hk : k_q ≤ K) (h : gF1 T C F S nw p k k_q l0 l1) : gF1 T C_q F S nw p k k_q l0 l1 := by
  obtain ⟨a, b, c, m, i1, i2, h1, h2, h3, h4⟩ := h
  have := ST_le h2
  have := gE_le h3
  have := ST_le h4
  exact ⟨a, b, c, m, i1, i2, gE_mv (Cg_su g (Int.le_refl _) (Int.le_refl _) i2) (by omega) h1, ST_mv g (by omega) h2, gE_mv (Cg_su g (Int.le_refl _) i1 (Int.le_refl _)) (by omega) h3, ST_mv g hk h4⟩
def gF2 (T C : Nat → Nat → Int) (Q : Int → Int) (j : Nat) (F S : Int → Int) (nw p le d k k_q l0 l1 : Int) : Prop := ∃ e f m : Int, l0 ≤ m ∧ m ≤ l1 ∧ gF1 T C F S nw p k d l0 m ∧ SQ C [(7, T 9 (T 17 p.toNat).toNat + 1), (4, 0), (15, 6)] d e ∧ WY C e f 10 le 0 ∧ gP T C Q j F S nw (T 21 p.toNat) f k_q m l1
theorem gF2_mv {T C C_q : Nat → Nat → Int} {Q : Int → Int} {j : Nat} {F S : Int → Int} {K nw p le d k k_q l0 l1 : Int} (g : Cg K l0 l1 C C_q) (hk : k_q ≤ K) (h : gF2 T C Q j F S nw p le d k k_q l0 l1) : gF2 T C_q Q j F S nw p le d k k_q l0 l1 := by
  obtain ⟨e, f, m, i1, i2, h1, h2, h3, h4⟩ := h
  have := SQ_le h2
  have := WY_le h3
  have := gP_le h4
  exact ⟨e, f, m, i1, i2, gF1_mv (Cg_su g (Int.le_refl _) (Int.le_refl _) i2) (by omega) h1, SQ_mv g (by omega) h2, WY_mv g (by omega) h3, gP_mv (Cg_su g (Int.le_refl _) i1 (Int.le_refl _)) hk h4⟩
theorem gFo_mk {T C : Nat → Nat → Int} {Q : Int → Int} {j : Nat} {F S : Int → Int} {nw p le lt d k g h k_q l0 l1 m2 : Int} (hl : l0 ≤ m2) (h1 : gF2 T C Q j F S nw p le d k g m2 l1) (h2 : SQ C [(7, T 9 (T 17 p.toNat).toNat), (8, 1), (13, T 9 (T 17 p.toNat).toNat), (7, T 9 (T 17 p.toNat).toNat + 1), (8, -1), (13, T 9 (T 17 p.toNat).toNat + 1)] g h) (h3 : WY C h k_q 0 lt 0) (t1 : LZ C lt d l0 m2) (t2 : LZ C le k_q l0 m2) : gFo T C F S nw (gP T C Q j F S nw) p k k_q l0 l1 := by
  obtain ⟨e, f, m4, i1, i2, ⟨a, b, c, m3, i3, i4, g1, g2, g3, g4⟩, g5, g6, g7⟩ := h1
  exact ⟨a, b, c, d, e, f, g, h, m2, m3, m4, hl, i3, i4, i2, g1, g2, g3, g4, g5, JP_ls g6 t2, g7, h2, JP_ls h3 t1⟩

set_option maxRecDepth 20000 in
set_option maxHeartbeats 4000000 in
theorem c_genFor_at_104 {X : jX} {k : Nat} (hN : GN X k) {d : Nat} {T0 : Nat → Nat → Int} {Q F Sn : Int → Int} {Vs : Nat → Prop} {sb pb : Int} {c0 c1 : jC} {G : Nat → Int} {A : Nat → Nat → Int} {T : jH} {n : Int} {hi a7 b7 s0 s1 fr z D bd : Int} {st lg lb nw al fw : Int} (hd : 2 * k + 63 ≤ d + 1) (hW : Wk G A) (e_st : G 70 = st) (e_lg : G 79 = lg) (e_lb : G 77 = lb) (e_nw : G 81 = nw) (e_al : G 89 = al) (e_fw : A 51 (nw).toNat = fw) (h_n : (-2147483648 : Int) ≤ n ∧ n ≤ 2147483647) (p_0 : TA T0 A) (p_1 : FA F (nw) A) (p_2 : SA T0 Vs Sn A) (p_3 : VW T0 Vs (nw)) (p_4 : 0 ≤ nw) (p_5 : nw + (k : Int) ≤ 38) (p_6 : 0 ≤ al) (p_7 : al + (k : Int) ≤ 38) (p_8 : 0 ≤ st) (p_9 : st ≤ 7000) (p_10 : 0 ≤ lb) (p_11 : lb + bd + 7000 - st ≤ 1900000000) (p_12 : hi ≤ 6999) (p_13 : sb ≤ 202) (p_14 : 0 ≤ n) (p_15 : n < hi) (p_16 : 0 ≤ T0 17 (n).toNat) (p_17 : T0 17 (n).toNat + 1 = s0) (p_18 : s0 ≤ s1) (p_19 : s1 ≤ sb) (p_20 : n + 1 ≤ a7) (p_21 : a7 ≤ b7) (p_22 : b7 ≤ hi) (p_23 : wE T0 Vs sb (20) (T0 19 (n).toNat) (n + 1) (a7)) (p_24 : wE T0 Vs sb (20) (T0 20 (n).toNat) (a7) (b7)) (p_25 : wP T0 sb pb (k) (Vu Vs (T0 17 (n).toNat)) (T0 21 (n).toNat) (b7) (hi) (s0) (s1)) (p_26 : VB (Vs) (T0 17 (n).toNat)) (p_27 : lP T0 (k) (T0 21 (n).toNat) (fr) (nw) (z) (D)) (p_28 : T0 7 (T0 17 (n).toNat).toNat = 9) (p_29 : 0 ≤ T0 9 (T0 17 (n).toNat).toNat) (p_30 : T0 9 (T0 17 (n).toNat).toNat + 2 ≤ 4000) (p_31 : T0 10 (T0 17 (n).toNat).toNat = nw) (p_32 : WB (n) (hi) (bd)) (p_33 : 1 ≤ fr) (p_34 : z ≤ 4000) (p_35 : 0 ≤ D) (p_36 : D ≤ 4000) (p_37 : -4000 ≤ fw - D) (p_38 : fw ≤ 0) (p_39 : pb ≤ 24) (p_40 : PV T0 pb) (p_41 : PA Q pb A) : ∀ (L : jL) (Gx : Nat → Int) (Ax : Nat → Nat → Int) (w lt le st1 lg1 lb1 fw1 dz : Int), jGet L 0 = some (.ref 66) → jGet L 1 = some (.int (i32 (n))) → jGet L 2 = some (.int (i32 w)) → jGet L 3 = some (.int (i32 lt)) → jGet L 4 = some (.int (i32 le)) → Wk Gx Ax → Fr [70, 77, 79, 81, 89] [13, 44, 45, 46, 47, 50, 51, 56, 57, 58] G A Gx Ax → Fx [44, 45, 46, 47] (st) A Ax → Fx [58] (8 * al) A Ax → Fx [56, 57] (8 * nw) A Ax → Cd (lg1 = 0 ∧ lb1 < 19999) (Fx [50] (lb + 1) A Ax) → Gx 70 = st1 → Gx 79 = lg1 → Gx 77 = lb1 → Ax 51 (nw).toNat = fw1 → Gx 81 = nw → Gx 89 = al → ((-2147483648 : Int) ≤ w ∧ w ≤ 2147483647) → ((-2147483648 : Int) ≤ lt ∧ lt ≤ 2147483647) → ((-2147483648 : Int) ≤ le ∧ le ≤ 2147483647) → (st ≤ st1) → (st1 ≤ 7000) → (lg ≤ lg1) → (lg1 ≤ 1) → (lb + 2 ≤ lb1) → (w = T0 9 (T0 17 (n).toNat).toNat) → (1 ≤ lt) → (lt ≤ 19999) → (1 ≤ le) → (le ≤ 19999) → (Cd (lb1 < 20000) (lt = lb + 1)) → (Cd (lb1 < 20000) (le = lb + 2)) → (fw1 = fw) → (FA F (nw) Ax) → (dz ≤ st1) → (SA T0 (Vu Vs (T0 17 (n).toNat)) Sn Ax) → (Cd (lg1 = 0) (lb1 - lb ≤ st1 - st)) → (lb1 - lb ≤ st1 - st + bd) → (Cd (lg1 = 0 ∧ lb1 < 19999) (gF2 T0 Ax Q k F Sn nw (n) (le) (dz) (st) (st1) (lb + 2) (lb1))) → (Cd (lg1 = 0 ∧ lb1 < 19999) (LZ Ax (lt) (dz) (lb) (lb + 1))) → wj X d jm356 (104, L, [], rV c0 c1 Gx Ax T) (fun o V_q => ∃ (G_q : Nat → Int) (A_q : Nat → Nat → Int) (st2 : Int) (lg2 : Int) (lb2 : Int) (nw2 : Int) (al2 : Int) (fw2 : Int), V_q = rV c0 c1 G_q A_q T ∧ o = .inl none ∧ Wk G_q A_q ∧ Fr [70, 77, 79, 81, 89] [13, 44, 45, 46, 47, 50, 51, 56, 57, 58] G A G_q A_q ∧ Fx [44, 45, 46, 47] (st) A A_q ∧ Fx [58] (8 * al) A A_q ∧ Fx [56, 57] (8 * nw) A A_q ∧ G_q 70 = st2 ∧ G_q 79 = lg2 ∧ G_q 77 = lb2 ∧ G_q 81 = nw2 ∧ G_q 89 = al2 ∧ A_q 51 (nw).toNat = fw2 ∧ (st ≤ st2) ∧ (st2 ≤ 7000) ∧ (lg ≤ lg2) ∧ (lg2 ≤ 1) ∧ (lb ≤ lb2) ∧ (Cd (lg2 = 0) (lb2 - lb ≤ st2 - st)) ∧ (lb2 - lb ≤ st2 - st + bd) ∧ (Cd (lg2 = 0 ∧ lb2 < 19999) (Fx [50] (lb + 1) A A_q)) ∧ (nw2 = nw) ∧ (al2 = al) ∧ (fw2 = fw) ∧ (FA F (nw) A_q) ∧ (SA T0 Vs Sn A_q) ∧ (Cd (lg2 = 0 ∧ lb2 < 19999) (gFo T0 A_q F Sn nw (gP T0 A_q Q k F Sn nw) (n) (st) (st2) (lb) (lb2))) ∧ True) := by
  have hF0 : Fr [70, 77, 79, 81, 89] [13, 44, 45, 46, 47, 50, 51, 56, 57, 58] G A G A := Fr_rf
  have hC0 : Fx [44, 45, 46, 47] (st) A A := Fx_rf
  have hAl0 : Fx [58] (8 * al) A A := Fx_rf
  have hBp0 : Fx [56, 57] (8 * nw) A A := Fx_rf
  have b_st : (-2147483648 : Int) ≤ st ∧ st ≤ 2147483647 := e_st ▸ hW.1 70
  have b_lg : (0 : Int) ≤ lg ∧ lg ≤ 1 := e_lg ▸ hW.1 79
  have b_lb : (-2147483648 : Int) ≤ lb ∧ lb ≤ 2147483647 := e_lb ▸ hW.1 77
  have b_nw : (-2147483648 : Int) ≤ nw ∧ nw ≤ 2147483647 := e_nw ▸ hW.1 81
  have b_al : (-2147483648 : Int) ≤ al ∧ al ≤ 2147483647 := e_al ▸ hW.1 89
  have b_fw : (-2147483648 : Int) ≤ fw ∧ fw ≤ 2147483647 := e_fw ▸ hW.2 51 _
  have hWT := TA_w hW p_0
  have hBo0 : Cd (lg = 0 ∧ lb < 19999) (Fx [50] (lb + 1) A A) := Cd_mk (fun _ => Fx_rf)
  have hfw := FA_at p_1 p_4 e_fw
  have hbp := WB_p p_32 (by omega) (by omega) (by omega)
  intro L Gx Ax w lt le st1 lg1 lb1 fw1 dz gL_0 gL_1 gL_2 gL_3 gL_4 hWx hFx hCx hAlx hBpx hBox ex_st1 ex_lg1 ex_lb1 ex_fw1 fx_81 fx_89 rx_w rx_lt rx_le iv_0 iv_1 iv_2 iv_3 iv_4 iv_5 iv_6 iv_7 iv_8 iv_9 iv_10 iv_11 iv_12 iv_13 iv_14 iv_15 iv_16 iv_17 iv_18 iv_19
  have b_st1 : (-2147483648 : Int) ≤ st1 ∧ st1 ≤ 2147483647 := ex_st1 ▸ hWx.1 70
  have b_lg1 : (0 : Int) ≤ lg1 ∧ lg1 ≤ 1 := ex_lg1 ▸ hWx.1 79
  have b_lb1 : (-2147483648 : Int) ≤ lb1 ∧ lb1 ≤ 2147483647 := ex_lb1 ▸ hWx.1 77
  refine jx_ld (pc_q := 105) (l_q := L) (st_q := [.ref 66]) rfl (jl_aloadn gL_0) ?_
  refine jx_ar (pc_q := 107) (st_q := [.int (i32 (7)), .ref 66]) rfl rfl rfl rfl ?_
  refine jx_ld (pc_q := 108) (l_q := L) (st_q := [.int (i32 (w)), .int (i32 (7)), .ref 66]) rfl (jl_iloadn gL_2) ?_
  refine jx_vr (pc_q := 111) (as := [.int (i32 (7)), .int (i32 (w))]) (st := []) rfl rfl rfl rfl ⟨rfl, rfl, Nat.le_of_ble_eq_true rfl⟩ rfl rfl (c_emit (dd := d) (hd := by omega) (hW := hWx) (fn := 7) (v := w) (st := st1) (e_st := show Gx 70 = st1 from (ex_st1)) (lg := lg1) (e_lg := show Gx 79 = lg1 from (ex_lg1))  (h_fn := ⟨(by decide), (by decide)⟩) (h_v := ⟨(Int.le_trans (by decide : (-2147483648 : Int) ≤ -2147483648) rx_w.1), (Int.le_trans rx_w.2 (by decide : (2147483647 : Int) ≤ 2147483647))⟩)  (p_0 := by omega) (p_1 := by omega)) (fun o V_q hq => ?_)
  obtain ⟨G1, A2, st2_3, lg2_4, rfl, rfl, hW5, hF6, hQ7, e8, e9, p10, p11, p12, p13, p14, p15, -⟩ := hq
  have hF17 := Fr_tr hFx hF6 (Fr_sub (by decide)) (Fr_sub (by decide))
  have hC18 := Fx_tr hCx hQ7 (by omega)
  have hAl19 := Fx_f hAlx hF6 (by decide)
  have hBp20 := Fx_f hBpx hF6 (by decide)
  have sf21 := FA_fr (hF6.2 51 rfl) iv_13
  have sf22 := SA_fr (hF6.2 13 rfl) iv_15
  have bst2_3 : (-2147483648 : Int) ≤ st2_3 ∧ st2_3 ≤ 2147483647 := e8 ▸ hW5.1 70
  have blg2_4 : (0 : Int) ≤ lg2_4 ∧ lg2_4 ≤ 1 := e9 ▸ hW5.1 79
  refine .inl ⟨rfl, ?_⟩
  have sf23 : Cd (lg2_4 = 0 ∧ lb1 < 19999) (gF2 T0 A2 Q k F Sn nw (n) (le) (dz) (st) (st1) (lb + 2) (lb1)) := Cd_mk (fun hC => gF2_mv (Cg_fx (l0 := lb + 2) (l1 := lb1) hQ7 (Fx_f (w := lb1 + 1) Fx_rf hF6 (by decide)) (by omega)) (by omega) (Cd_ap iv_18 (by omega)))
  have sf24 : Cd (lg2_4 = 0 ∧ lb1 < 19999) (LZ A2 (lt) (dz) (lb) (lb + 1)) := Cd_mk (fun hC => LZ_mv (Cg_fx (l0 := lb) (l1 := lb + 1) hQ7 (Fx_f (w := lb + 1 + 1) Fx_rf hF6 (by decide)) (by omega)) (by omega) (Cd_ap iv_19 (by omega)))
  have hBo25 : Cd (lg2_4 = 0 ∧ lb1 < 19999) (Fx [50] (lb + 1) A A2) := Cd_mk (fun hC => Fx_f (Cd_ap hBox (by omega)) hF6 (by decide))
  refine jx_ld (pc_q := 112) (l_q := L) (st_q := [.ref 66]) rfl (jl_aloadn gL_0) ?_
  refine jx_ar (pc_q := 114) (st_q := [.int (i32 (8)), .ref 66]) rfl rfl rfl rfl ?_
  refine jx_ar (pc_q := 115) (st_q := [.int (i32 (1)), .int (i32 (8)), .ref 66]) rfl rfl rfl rfl ?_
  refine jx_vr (pc_q := 118) (as := [.int (i32 (8)), .int (i32 (1))]) (st := []) rfl rfl rfl rfl ⟨rfl, rfl, Nat.le_of_ble_eq_true rfl⟩ rfl rfl (c_emit (dd := d) (hd := by omega) (hW := hW5) (fn := 8) (v := 1) (st := st2_3) (e_st := show G1 70 = st2_3 from (e8)) (lg := lg2_4) (e_lg := show G1 79 = lg2_4 from (e9))  (h_fn := ⟨(by decide), (by decide)⟩) (h_v := ⟨(by decide), (by decide)⟩)  (p_0 := by omega) (p_1 := by omega)) (fun o V_q hq => ?_)
  obtain ⟨G26, A27, st2_28, lg2_29, rfl, rfl, hW30, hF31, hQ32, e33, e34, p35, p36, p37, p38, p39, p40, -⟩ := hq
  have hF42 := Fr_tr hF17 hF31 (Fr_sub (by decide)) (Fr_sub (by decide))
  have hC43 := Fx_tr hC18 hQ32 (by omega)
  have hAl44 := Fx_f hAl19 hF31 (by decide)
  have hBp45 := Fx_f hBp20 hF31 (by decide)
  have sf46 := FA_fr (hF31.2 51 rfl) sf21
  have sf47 := SA_fr (hF31.2 13 rfl) sf22
  have bst2_28 : (-2147483648 : Int) ≤ st2_28 ∧ st2_28 ≤ 2147483647 := e33 ▸ hW30.1 70
  have blg2_29 : (0 : Int) ≤ lg2_29 ∧ lg2_29 ≤ 1 := e34 ▸ hW30.1 79
  refine .inl ⟨rfl, ?_⟩
  have sf48 : Cd (lg2_29 = 0 ∧ lb1 < 19999) (gF2 T0 A27 Q k F Sn nw (n) (le) (dz) (st) (st1) (lb + 2) (lb1)) := Cd_mk (fun hC => gF2_mv (Cg_fx (l0 := lb + 2) (l1 := lb1) hQ32 (Fx_f (w := lb1 + 1) Fx_rf hF31 (by decide)) (by omega)) (by omega) (Cd_ap sf23 (by omega)))
  have sf49 : Cd (lg2_29 = 0 ∧ lb1 < 19999) (LZ A27 (lt) (dz) (lb) (lb + 1)) := Cd_mk (fun hC => LZ_mv (Cg_fx (l0 := lb) (l1 := lb + 1) hQ32 (Fx_f (w := lb + 1 + 1) Fx_rf hF31 (by decide)) (by omega)) (by omega) (Cd_ap sf24 (by omega)))
  have sf50 : Cd (lg2_29 = 0 ∧ lb1 < 19999) (ST A27 (st1) (st2_3) (7) (w)) := Cd_mk (fun hC => ST_mv (Cg_fx (l0 := 0) (l1 := 0) hQ32 (Fx_f (w := 0 + 1) Fx_rf hF31 (by decide)) (by omega)) (by omega) (Cd_ap p15 (by omega)))
  have hBo51 : Cd (lg2_29 = 0 ∧ lb1 < 19999) (Fx [50] (lb + 1) A A27) := Cd_mk (fun hC => Fx_f (Cd_ap hBo25 (by omega)) hF31 (by decide))
  refine jx_ld (pc_q := 119) (l_q := L) (st_q := [.ref 66]) rfl (jl_aloadn gL_0) ?_
  refine jx_ar (pc_q := 121) (st_q := [.int (i32 (13)), .ref 66]) rfl rfl rfl rfl ?_
  refine jx_ld (pc_q := 122) (l_q := L) (st_q := [.int (i32 (w)), .int (i32 (13)), .ref 66]) rfl (jl_iloadn gL_2) ?_
  refine jx_vr (pc_q := 125) (as := [.int (i32 (13)), .int (i32 (w))]) (st := []) rfl rfl rfl rfl ⟨rfl, rfl, Nat.le_of_ble_eq_true rfl⟩ rfl rfl (c_emit (dd := d) (hd := by omega) (hW := hW30) (fn := 13) (v := w) (st := st2_28) (e_st := show G26 70 = st2_28 from (e33)) (lg := lg2_29) (e_lg := show G26 79 = lg2_29 from (e34))  (h_fn := ⟨(by decide), (by decide)⟩) (h_v := ⟨(Int.le_trans (by decide : (-2147483648 : Int) ≤ -2147483648) rx_w.1), (Int.le_trans rx_w.2 (by decide : (2147483647 : Int) ≤ 2147483647))⟩)  (p_0 := by omega) (p_1 := by omega)) (fun o V_q hq => ?_)
  obtain ⟨G52, A53, st2_54, lg2_55, rfl, rfl, hW56, hF57, hQ58, e59, e60, p61, p62, p63, p64, p65, p66, -⟩ := hq
  have hF68 := Fr_tr hF42 hF57 (Fr_sub (by decide)) (Fr_sub (by decide))
  have hC69 := Fx_tr hC43 hQ58 (by omega)
  have hAl70 := Fx_f hAl44 hF57 (by decide)
  have hBp71 := Fx_f hBp45 hF57 (by decide)
  have sf72 := FA_fr (hF57.2 51 rfl) sf46
  have sf73 := SA_fr (hF57.2 13 rfl) sf47
  have bst2_54 : (-2147483648 : Int) ≤ st2_54 ∧ st2_54 ≤ 2147483647 := e59 ▸ hW56.1 70
  have blg2_55 : (0 : Int) ≤ lg2_55 ∧ lg2_55 ≤ 1 := e60 ▸ hW56.1 79
  refine .inl ⟨rfl, ?_⟩
  have sf74 : Cd (lg2_55 = 0 ∧ lb1 < 19999) (gF2 T0 A53 Q k F Sn nw (n) (le) (dz) (st) (st1) (lb + 2) (lb1)) := Cd_mk (fun hC => gF2_mv (Cg_fx (l0 := lb + 2) (l1 := lb1) hQ58 (Fx_f (w := lb1 + 1) Fx_rf hF57 (by decide)) (by omega)) (by omega) (Cd_ap sf48 (by omega)))
  have sf75 : Cd (lg2_55 = 0 ∧ lb1 < 19999) (LZ A53 (lt) (dz) (lb) (lb + 1)) := Cd_mk (fun hC => LZ_mv (Cg_fx (l0 := lb) (l1 := lb + 1) hQ58 (Fx_f (w := lb + 1 + 1) Fx_rf hF57 (by decide)) (by omega)) (by omega) (Cd_ap sf49 (by omega)))
  have sf76 : Cd (lg2_55 = 0 ∧ lb1 < 19999) (ST A53 (st1) (st2_3) (7) (w)) := Cd_mk (fun hC => ST_mv (Cg_fx (l0 := 0) (l1 := 0) hQ58 (Fx_f (w := 0 + 1) Fx_rf hF57 (by decide)) (by omega)) (by omega) (Cd_ap sf50 (by omega)))
  have sf77 : Cd (lg2_55 = 0 ∧ lb1 < 19999) (ST A53 (st2_3) (st2_28) (8) (1)) := Cd_mk (fun hC => ST_mv (Cg_fx (l0 := 0) (l1 := 0) hQ58 (Fx_f (w := 0 + 1) Fx_rf hF57 (by decide)) (by omega)) (by omega) (Cd_ap p40 (by omega)))
  have hBo78 : Cd (lg2_55 = 0 ∧ lb1 < 19999) (Fx [50] (lb + 1) A A53) := Cd_mk (fun hC => Fx_f (Cd_ap hBo51 (by omega)) hF57 (by decide))
  refine jx_ld (pc_q := 126) (l_q := L) (st_q := [.ref 66]) rfl (jl_aloadn gL_0) ?_
  refine jx_ar (pc_q := 128) (st_q := [.int (i32 (7)), .ref 66]) rfl rfl rfl rfl ?_
  refine jx_ld (pc_q := 129) (l_q := L) (st_q := [.int (i32 (w)), .int (i32 (7)), .ref 66]) rfl (jl_iloadn gL_2) ?_
  refine jx_ar (pc_q := 130) (st_q := [.int (i32 (1)), .int (i32 (w)), .int (i32 (7)), .ref 66]) rfl rfl rfl rfl ?_
  refine jx_add (pc_q := 131) rfl rfl ?_
  refine jx_vr (pc_q := 134) (as := [.int (i32 (7)), .int (i32 ((w + 1)))]) (st := []) rfl rfl rfl rfl ⟨rfl, rfl, Nat.le_of_ble_eq_true rfl⟩ rfl rfl (c_emit (dd := d) (hd := by omega) (hW := hW56) (fn := 7) (v := (w + 1)) (st := st2_54) (e_st := show G52 70 = st2_54 from (e59)) (lg := lg2_55) (e_lg := show G52 79 = lg2_55 from (e60))  (h_fn := ⟨(by decide), (by decide)⟩) (h_v := ⟨(by omega), (by omega)⟩)  (p_0 := by omega) (p_1 := by omega)) (fun o V_q hq => ?_)
  obtain ⟨G79, A80, st2_81, lg2_82, rfl, rfl, hW83, hF84, hQ85, e86, e87, p88, p89, p90, p91, p92, p93, -⟩ := hq
  have hF95 := Fr_tr hF68 hF84 (Fr_sub (by decide)) (Fr_sub (by decide))
  have hC96 := Fx_tr hC69 hQ85 (by omega)
  have hAl97 := Fx_f hAl70 hF84 (by decide)
  have hBp98 := Fx_f hBp71 hF84 (by decide)
  have sf99 := FA_fr (hF84.2 51 rfl) sf72
  have sf100 := SA_fr (hF84.2 13 rfl) sf73
  have bst2_81 : (-2147483648 : Int) ≤ st2_81 ∧ st2_81 ≤ 2147483647 := e86 ▸ hW83.1 70
  have blg2_82 : (0 : Int) ≤ lg2_82 ∧ lg2_82 ≤ 1 := e87 ▸ hW83.1 79
  refine .inl ⟨rfl, ?_⟩
  have sf101 : Cd (lg2_82 = 0 ∧ lb1 < 19999) (gF2 T0 A80 Q k F Sn nw (n) (le) (dz) (st) (st1) (lb + 2) (lb1)) := Cd_mk (fun hC => gF2_mv (Cg_fx (l0 := lb + 2) (l1 := lb1) hQ85 (Fx_f (w := lb1 + 1) Fx_rf hF84 (by decide)) (by omega)) (by omega) (Cd_ap sf74 (by omega)))
  have sf102 : Cd (lg2_82 = 0 ∧ lb1 < 19999) (LZ A80 (lt) (dz) (lb) (lb + 1)) := Cd_mk (fun hC => LZ_mv (Cg_fx (l0 := lb) (l1 := lb + 1) hQ85 (Fx_f (w := lb + 1 + 1) Fx_rf hF84 (by decide)) (by omega)) (by omega) (Cd_ap sf75 (by omega)))
  have sf103 : Cd (lg2_82 = 0 ∧ lb1 < 19999) (ST A80 (st1) (st2_3) (7) (w)) := Cd_mk (fun hC => ST_mv (Cg_fx (l0 := 0) (l1 := 0) hQ85 (Fx_f (w := 0 + 1) Fx_rf hF84 (by decide)) (by omega)) (by omega) (Cd_ap sf76 (by omega)))
  have sf104 : Cd (lg2_82 = 0 ∧ lb1 < 19999) (ST A80 (st2_3) (st2_28) (8) (1)) := Cd_mk (fun hC => ST_mv (Cg_fx (l0 := 0) (l1 := 0) hQ85 (Fx_f (w := 0 + 1) Fx_rf hF84 (by decide)) (by omega)) (by omega) (Cd_ap sf77 (by omega)))
  have sf105 : Cd (lg2_82 = 0 ∧ lb1 < 19999) (ST A80 (st2_28) (st2_54) (13) (w)) := Cd_mk (fun hC => ST_mv (Cg_fx (l0 := 0) (l1 := 0) hQ85 (Fx_f (w := 0 + 1) Fx_rf hF84 (by decide)) (by omega)) (by omega) (Cd_ap p66 (by omega)))
  have hBo106 : Cd (lg2_82 = 0 ∧ lb1 < 19999) (Fx [50] (lb + 1) A A80) := Cd_mk (fun hC => Fx_f (Cd_ap hBo78 (by omega)) hF84 (by decide))
  refine jx_ld (pc_q := 135) (l_q := L) (st_q := [.ref 66]) rfl (jl_aloadn gL_0) ?_
  refine jx_ar (pc_q := 137) (st_q := [.int (i32 (8)), .ref 66]) rfl rfl rfl rfl ?_
  refine jx_ar (pc_q := 138) (st_q := [.int (i32 (-1)), .int (i32 (8)), .ref 66]) rfl rfl rfl rfl ?_
  refine jx_vr (pc_q := 141) (as := [.int (i32 (8)), .int (i32 (-1))]) (st := []) rfl rfl rfl rfl ⟨rfl, rfl, Nat.le_of_ble_eq_true rfl⟩ rfl rfl (c_emit (dd := d) (hd := by omega) (hW := hW83) (fn := 8) (v := -1) (st := st2_81) (e_st := show G79 70 = st2_81 from (e86)) (lg := lg2_82) (e_lg := show G79 79 = lg2_82 from (e87))  (h_fn := ⟨(by decide), (by decide)⟩) (h_v := ⟨(by decide), (by decide)⟩)  (p_0 := by omega) (p_1 := by omega)) (fun o V_q hq => ?_)
  obtain ⟨G107, A108, st2_109, lg2_110, rfl, rfl, hW111, hF112, hQ113, e114, e115, p116, p117, p118, p119, p120, p121, -⟩ := hq
  have hF123 := Fr_tr hF95 hF112 (Fr_sub (by decide)) (Fr_sub (by decide))
  have hC124 := Fx_tr hC96 hQ113 (by omega)
  have hAl125 := Fx_f hAl97 hF112 (by decide)
  have hBp126 := Fx_f hBp98 hF112 (by decide)
  have sf127 := FA_fr (hF112.2 51 rfl) sf99
  have sf128 := SA_fr (hF112.2 13 rfl) sf100
  have bst2_109 : (-2147483648 : Int) ≤ st2_109 ∧ st2_109 ≤ 2147483647 := e114 ▸ hW111.1 70
  have blg2_110 : (0 : Int) ≤ lg2_110 ∧ lg2_110 ≤ 1 := e115 ▸ hW111.1 79
  refine .inl ⟨rfl, ?_⟩
  have sf129 : Cd (lg2_110 = 0 ∧ lb1 < 19999) (gF2 T0 A108 Q k F Sn nw (n) (le) (dz) (st) (st1) (lb + 2) (lb1)) := Cd_mk (fun hC => gF2_mv (Cg_fx (l0 := lb + 2) (l1 := lb1) hQ113 (Fx_f (w := lb1 + 1) Fx_rf hF112 (by decide)) (by omega)) (by omega) (Cd_ap sf101 (by omega)))
  have sf130 : Cd (lg2_110 = 0 ∧ lb1 < 19999) (LZ A108 (lt) (dz) (lb) (lb + 1)) := Cd_mk (fun hC => LZ_mv (Cg_fx (l0 := lb) (l1 := lb + 1) hQ113 (Fx_f (w := lb + 1 + 1) Fx_rf hF112 (by decide)) (by omega)) (by omega) (Cd_ap sf102 (by omega)))
  have sf131 : Cd (lg2_110 = 0 ∧ lb1 < 19999) (ST A108 (st1) (st2_3) (7) (w)) := Cd_mk (fun hC => ST_mv (Cg_fx (l0 := 0) (l1 := 0) hQ113 (Fx_f (w := 0 + 1) Fx_rf hF112 (by decide)) (by omega)) (by omega) (Cd_ap sf103 (by omega)))
  have sf132 : Cd (lg2_110 = 0 ∧ lb1 < 19999) (ST A108 (st2_3) (st2_28) (8) (1)) := Cd_mk (fun hC => ST_mv (Cg_fx (l0 := 0) (l1 := 0) hQ113 (Fx_f (w := 0 + 1) Fx_rf hF112 (by decide)) (by omega)) (by omega) (Cd_ap sf104 (by omega)))
  have sf133 : Cd (lg2_110 = 0 ∧ lb1 < 19999) (ST A108 (st2_28) (st2_54) (13) (w)) := Cd_mk (fun hC => ST_mv (Cg_fx (l0 := 0) (l1 := 0) hQ113 (Fx_f (w := 0 + 1) Fx_rf hF112 (by decide)) (by omega)) (by omega) (Cd_ap sf105 (by omega)))
  have sf134 : Cd (lg2_110 = 0 ∧ lb1 < 19999) (ST A108 (st2_54) (st2_81) (7) (w + 1)) := Cd_mk (fun hC => ST_mv (Cg_fx (l0 := 0) (l1 := 0) hQ113 (Fx_f (w := 0 + 1) Fx_rf hF112 (by decide)) (by omega)) (by omega) (Cd_ap p93 (by omega)))
  have hBo135 : Cd (lg2_110 = 0 ∧ lb1 < 19999) (Fx [50] (lb + 1) A A108) := Cd_mk (fun hC => Fx_f (Cd_ap hBo106 (by omega)) hF112 (by decide))
  refine jx_ld (pc_q := 142) (l_q := L) (st_q := [.ref 66]) rfl (jl_aloadn gL_0) ?_
  refine jx_ar (pc_q := 144) (st_q := [.int (i32 (13)), .ref 66]) rfl rfl rfl rfl ?_
  refine jx_ld (pc_q := 145) (l_q := L) (st_q := [.int (i32 (w)), .int (i32 (13)), .ref 66]) rfl (jl_iloadn gL_2) ?_
  refine jx_ar (pc_q := 146) (st_q := [.int (i32 (1)), .int (i32 (w)), .int (i32 (13)), .ref 66]) rfl rfl rfl rfl ?_
  refine jx_add (pc_q := 147) rfl rfl ?_
  refine jx_vr (pc_q := 150) (as := [.int (i32 (13)), .int (i32 ((w + 1)))]) (st := []) rfl rfl rfl rfl ⟨rfl, rfl, Nat.le_of_ble_eq_true rfl⟩ rfl rfl (c_emit (dd := d) (hd := by omega) (hW := hW111) (fn := 13) (v := (w + 1)) (st := st2_109) (e_st := show G107 70 = st2_109 from (e114)) (lg := lg2_110) (e_lg := show G107 79 = lg2_110 from (e115))  (h_fn := ⟨(by decide), (by decide)⟩) (h_v := ⟨(by omega), (by omega)⟩)  (p_0 := by omega) (p_1 := by omega)) (fun o V_q hq => ?_)
  obtain ⟨G136, A137, st2_138, lg2_139, rfl, rfl, hW140, hF141, hQ142, e143, e144, p145, p146, p147, p148, p149, p150, -⟩ := hq
  have hF152 := Fr_tr hF123 hF141 (Fr_sub (by decide)) (Fr_sub (by decide))
  have hC153 := Fx_tr hC124 hQ142 (by omega)
  have hAl154 := Fx_f hAl125 hF141 (by decide)
  have hBp155 := Fx_f hBp126 hF141 (by decide)
  have sf156 := FA_fr (hF141.2 51 rfl) sf127
  have sf157 := SA_fr (hF141.2 13 rfl) sf128
  have bst2_138 : (-2147483648 : Int) ≤ st2_138 ∧ st2_138 ≤ 2147483647 := e143 ▸ hW140.1 70
  have blg2_139 : (0 : Int) ≤ lg2_139 ∧ lg2_139 ≤ 1 := e144 ▸ hW140.1 79
  refine .inl ⟨rfl, ?_⟩
  have sf158 : Cd (lg2_139 = 0 ∧ lb1 < 19999) (gF2 T0 A137 Q k F Sn nw (n) (le) (dz) (st) (st1) (lb + 2) (lb1)) := Cd_mk (fun hC => gF2_mv (Cg_fx (l0 := lb + 2) (l1 := lb1) hQ142 (Fx_f (w := lb1 + 1) Fx_rf hF141 (by decide)) (by omega)) (by omega) (Cd_ap sf129 (by omega)))
  have sf159 : Cd (lg2_139 = 0 ∧ lb1 < 19999) (LZ A137 (lt) (dz) (lb) (lb + 1)) := Cd_mk (fun hC => LZ_mv (Cg_fx (l0 := lb) (l1 := lb + 1) hQ142 (Fx_f (w := lb + 1 + 1) Fx_rf hF141 (by decide)) (by omega)) (by omega) (Cd_ap sf130 (by omega)))
  have sf160 : Cd (lg2_139 = 0 ∧ lb1 < 19999) (ST A137 (st1) (st2_3) (7) (w)) := Cd_mk (fun hC => ST_mv (Cg_fx (l0 := 0) (l1 := 0) hQ142 (Fx_f (w := 0 + 1) Fx_rf hF141 (by decide)) (by omega)) (by omega) (Cd_ap sf131 (by omega)))
  have sf161 : Cd (lg2_139 = 0 ∧ lb1 < 19999) (ST A137 (st2_3) (st2_28) (8) (1)) := Cd_mk (fun hC => ST_mv (Cg_fx (l0 := 0) (l1 := 0) hQ142 (Fx_f (w := 0 + 1) Fx_rf hF141 (by decide)) (by omega)) (by omega) (Cd_ap sf132 (by omega)))
  have sf162 : Cd (lg2_139 = 0 ∧ lb1 < 19999) (ST A137 (st2_28) (st2_54) (13) (w)) := Cd_mk (fun hC => ST_mv (Cg_fx (l0 := 0) (l1 := 0) hQ142 (Fx_f (w := 0 + 1) Fx_rf hF141 (by decide)) (by omega)) (by omega) (Cd_ap sf133 (by omega)))
  have sf163 : Cd (lg2_139 = 0 ∧ lb1 < 19999) (ST A137 (st2_54) (st2_81) (7) (w + 1)) := Cd_mk (fun hC => ST_mv (Cg_fx (l0 := 0) (l1 := 0) hQ142 (Fx_f (w := 0 + 1) Fx_rf hF141 (by decide)) (by omega)) (by omega) (Cd_ap sf134 (by omega)))
  have sf164 : Cd (lg2_139 = 0 ∧ lb1 < 19999) (ST A137 (st2_81) (st2_109) (8) (-1)) := Cd_mk (fun hC => ST_mv (Cg_fx (l0 := 0) (l1 := 0) hQ142 (Fx_f (w := 0 + 1) Fx_rf hF141 (by decide)) (by omega)) (by omega) (Cd_ap p121 (by omega)))
  have hBo165 : Cd (lg2_139 = 0 ∧ lb1 < 19999) (Fx [50] (lb + 1) A A137) := Cd_mk (fun hC => Fx_f (Cd_ap hBo135 (by omega)) hF141 (by decide))
  refine jx_ld (pc_q := 151) (l_q := L) (st_q := [.ref 66]) rfl (jl_aloadn gL_0) ?_
  refine jx_ar (pc_q := 152) (st_q := [.int (i32 (0)), .ref 66]) rfl rfl rfl rfl ?_
  refine jx_ld (pc_q := 153) (l_q := L) (st_q := [.int (i32 (lt)), .int (i32 (0)), .ref 66]) rfl (jl_iloadn gL_3) ?_
  refine jx_ar (pc_q := 154) (st_q := [.int (i32 (0)), .int (i32 (lt)), .int (i32 (0)), .ref 66]) rfl rfl rfl rfl ?_
  refine jx_vr (pc_q := 157) (as := [.int (i32 (0)), .int (i32 (lt)), .int (i32 (0))]) (st := []) rfl rfl rfl rfl ⟨rfl, rfl, Nat.le_of_ble_eq_true rfl⟩ rfl rfl (c_way (dd := d) (hd := by omega) (hW := hW140) (fn := 0) (to := lt) (fr := 0) (st := st2_138) (e_st := show G136 70 = st2_138 from (e143)) (lg := lg2_139) (e_lg := show G136 79 = lg2_139 from (e144))  (h_fn := ⟨(by decide), (by decide)⟩) (h_to := ⟨(Int.le_trans (by decide : (-2147483648 : Int) ≤ -2147483648) rx_lt.1), (Int.le_trans rx_lt.2 (by decide : (2147483647 : Int) ≤ 2147483647))⟩) (h_fr := ⟨(by decide), (by decide)⟩)  (p_0 := by omega) (p_1 := by omega)) (fun o V_q hq => ?_)
  obtain ⟨G166, A167, st2_168, lg2_169, rfl, rfl, hW170, hF171, hQ172, e173, e174, p175, p176, p177, p178, p179, p180, -⟩ := hq
  have hF182 := Fr_tr hF152 hF171 (Fr_sub (by decide)) (Fr_sub (by decide))
  have hC183 := Fx_tr hC153 hQ172 (by omega)
  have hAl184 := Fx_f hAl154 hF171 (by decide)
  have hBp185 := Fx_f hBp155 hF171 (by decide)
  have sf186 := FA_fr (hF171.2 51 rfl) sf156
  have sf187 := SA_fr (hF171.2 13 rfl) sf157
  have bst2_168 : (-2147483648 : Int) ≤ st2_168 ∧ st2_168 ≤ 2147483647 := e173 ▸ hW170.1 70
  have blg2_169 : (0 : Int) ≤ lg2_169 ∧ lg2_169 ≤ 1 := e174 ▸ hW170.1 79
  refine .inl ⟨rfl, ?_⟩
  have sf188 : Cd (lg2_169 = 0 ∧ lb1 < 19999) (gF2 T0 A167 Q k F Sn nw (n) (le) (dz) (st) (st1) (lb + 2) (lb1)) := Cd_mk (fun hC => gF2_mv (Cg_fx (l0 := lb + 2) (l1 := lb1) hQ172 (Fx_f (w := lb1 + 1) Fx_rf hF171 (by decide)) (by omega)) (by omega) (Cd_ap sf158 (by omega)))
  have sf189 : Cd (lg2_169 = 0 ∧ lb1 < 19999) (LZ A167 (lt) (dz) (lb) (lb + 1)) := Cd_mk (fun hC => LZ_mv (Cg_fx (l0 := lb) (l1 := lb + 1) hQ172 (Fx_f (w := lb + 1 + 1) Fx_rf hF171 (by decide)) (by omega)) (by omega) (Cd_ap sf159 (by omega)))
  have sf190 : Cd (lg2_169 = 0 ∧ lb1 < 19999) (ST A167 (st1) (st2_3) (7) (w)) := Cd_mk (fun hC => ST_mv (Cg_fx (l0 := 0) (l1 := 0) hQ172 (Fx_f (w := 0 + 1) Fx_rf hF171 (by decide)) (by omega)) (by omega) (Cd_ap sf160 (by omega)))
  have sf191 : Cd (lg2_169 = 0 ∧ lb1 < 19999) (ST A167 (st2_3) (st2_28) (8) (1)) := Cd_mk (fun hC => ST_mv (Cg_fx (l0 := 0) (l1 := 0) hQ172 (Fx_f (w := 0 + 1) Fx_rf hF171 (by decide)) (by omega)) (by omega) (Cd_ap sf161 (by omega)))
  have sf192 : Cd (lg2_169 = 0 ∧ lb1 < 19999) (ST A167 (st2_28) (st2_54) (13) (w)) := Cd_mk (fun hC => ST_mv (Cg_fx (l0 := 0) (l1 := 0) hQ172 (Fx_f (w := 0 + 1) Fx_rf hF171 (by decide)) (by omega)) (by omega) (Cd_ap sf162 (by omega)))
  have sf193 : Cd (lg2_169 = 0 ∧ lb1 < 19999) (ST A167 (st2_54) (st2_81) (7) (w + 1)) := Cd_mk (fun hC => ST_mv (Cg_fx (l0 := 0) (l1 := 0) hQ172 (Fx_f (w := 0 + 1) Fx_rf hF171 (by decide)) (by omega)) (by omega) (Cd_ap sf163 (by omega)))
  have sf194 : Cd (lg2_169 = 0 ∧ lb1 < 19999) (ST A167 (st2_81) (st2_109) (8) (-1)) := Cd_mk (fun hC => ST_mv (Cg_fx (l0 := 0) (l1 := 0) hQ172 (Fx_f (w := 0 + 1) Fx_rf hF171 (by decide)) (by omega)) (by omega) (Cd_ap sf164 (by omega)))
  have sf195 : Cd (lg2_169 = 0 ∧ lb1 < 19999) (ST A167 (st2_109) (st2_138) (13) (w + 1)) := Cd_mk (fun hC => ST_mv (Cg_fx (l0 := 0) (l1 := 0) hQ172 (Fx_f (w := 0 + 1) Fx_rf hF171 (by decide)) (by omega)) (by omega) (Cd_ap p150 (by omega)))
  have hBo196 : Cd (lg2_169 = 0 ∧ lb1 < 19999) (Fx [50] (lb + 1) A A167) := Cd_mk (fun hC => Fx_f (Cd_ap hBo165 (by omega)) hF171 (by decide))
  refine jx_ld (pc_q := 158) (l_q := L) (st_q := [.ref 66]) rfl (jl_aloadn gL_0) ?_
  refine jx_ld (pc_q := 160) (l_q := L) (st_q := [.int (i32 (le)), .ref 66]) rfl (jl_iload gL_4) ?_
  refine jx_vr (pc_q := 163) (as := [.int (i32 (le))]) (st := []) rfl rfl rfl rfl ⟨rfl, rfl, Nat.le_of_ble_eq_true rfl⟩ rfl rfl (c_set (dd := d) (hd := by omega) (hW := hW170) (l := le) (st := st2_168) (e_st := show G166 70 = st2_168 from (e173))  (h_l := ⟨(Int.le_trans (by decide : (-2147483648 : Int) ≤ -2147483648) rx_le.1), (Int.le_trans rx_le.2 (by decide : (2147483647 : Int) ≤ 2147483647))⟩)  (p_0 := by omega) (p_1 := by omega)) (fun o V_q hq => ?_)
  obtain ⟨G197, A198, ls2_199, rfl, rfl, hW200, hF201, e202, p203, q204⟩ := hq
  have hF205 := Fr_tr hF182 hF201 (Fr_sub (by decide)) (Fr_sub (by decide))
  have hC206 := Fx_f hC183 hF201 (by decide)
  have hAl207 := Fx_f hAl184 hF201 (by decide)
  have hBp208 := Fx_f hBp185 hF201 (by decide)
  have bls2_199 : (-2147483648 : Int) ≤ ls2_199 ∧ ls2_199 ≤ 2147483647 := e202 ▸ hW200.2 50 _
  refine .inl ⟨rfl, ?_⟩
  have a209 := q204
  have sf210 := FA_fr ((congrFun a209 51).trans (uA_ne (by decide))) sf186
  have sf211 := SA_fr ((congrFun a209 13).trans (uA_ne (by decide))) sf187
  have sf212 : Cd (lg2_169 = 0 ∧ lb1 < 19999) (gF2 T0 A198 Q k F Sn nw (n) (le) (dz) (st) (st1) (lb + 2) (lb1)) := Cd_mk (fun hC => gF2_mv (Cg_set (K := st1) a209 (by omega) (by have hr := Cd_ap iv_11 (by omega); omega)) (Int.le_refl _) (Cd_ap sf188 (by omega)))
  have sf213 : Cd (lg2_169 = 0 ∧ lb1 < 19999) (LZ A198 (lt) (dz) (lb) (lb + 1)) := Cd_mk (fun hC => LZ_mv (Cg_set (K := dz) a209 (by omega) (by have hr := Cd_ap iv_11 (by omega); omega)) (Int.le_refl _) (Cd_ap sf189 (by omega)))
  have sf214 : Cd (lg2_169 = 0 ∧ lb1 < 19999) (ST A198 (st1) (st2_3) (7) (w)) := Cd_mk (fun hC => ST_mv (Cg_set (K := st2_3) (l0 := le) (l1 := le) a209 (by omega) (by omega)) (Int.le_refl _) (Cd_ap sf190 (by omega)))
  have sf215 : Cd (lg2_169 = 0 ∧ lb1 < 19999) (ST A198 (st2_3) (st2_28) (8) (1)) := Cd_mk (fun hC => ST_mv (Cg_set (K := st2_28) (l0 := le) (l1 := le) a209 (by omega) (by omega)) (Int.le_refl _) (Cd_ap sf191 (by omega)))
  have sf216 : Cd (lg2_169 = 0 ∧ lb1 < 19999) (ST A198 (st2_28) (st2_54) (13) (w)) := Cd_mk (fun hC => ST_mv (Cg_set (K := st2_54) (l0 := le) (l1 := le) a209 (by omega) (by omega)) (Int.le_refl _) (Cd_ap sf192 (by omega)))
  have sf217 : Cd (lg2_169 = 0 ∧ lb1 < 19999) (ST A198 (st2_54) (st2_81) (7) (w + 1)) := Cd_mk (fun hC => ST_mv (Cg_set (K := st2_81) (l0 := le) (l1 := le) a209 (by omega) (by omega)) (Int.le_refl _) (Cd_ap sf193 (by omega)))
  have sf218 : Cd (lg2_169 = 0 ∧ lb1 < 19999) (ST A198 (st2_81) (st2_109) (8) (-1)) := Cd_mk (fun hC => ST_mv (Cg_set (K := st2_109) (l0 := le) (l1 := le) a209 (by omega) (by omega)) (Int.le_refl _) (Cd_ap sf194 (by omega)))
  have sf219 : Cd (lg2_169 = 0 ∧ lb1 < 19999) (ST A198 (st2_109) (st2_138) (13) (w + 1)) := Cd_mk (fun hC => ST_mv (Cg_set (K := st2_138) (l0 := le) (l1 := le) a209 (by omega) (by omega)) (Int.le_refl _) (Cd_ap sf195 (by omega)))
  have sf220 : Cd (lg2_169 = 0 ∧ lb1 < 19999) (WY A198 (st2_138) (st2_168) (0) (lt) (0)) := Cd_mk (fun hC => WY_mv (Cg_set (K := st2_168) (l0 := le) (l1 := le) a209 (by omega) (by omega)) (Int.le_refl _) (Cd_ap p180 (by omega)))
  have hBo221 : Cd (lg2_169 = 0 ∧ lb1 < 19999) (Fx [50] (lb + 1) A A198) := Cd_mk (fun hC => Fx_u a209 (Cd_ap hBo196 (by omega)) (by omega) (by have hr := Cd_ap iv_11 (by omega); omega))
  refine jx_rt (v := none) rfl rfl rfl rfl rfl rfl ?_
  exact ⟨_, _, st2_168, lg2_169, lb1, nw, al, fw1, rfl, rfl, hW200, hF205, hC206, hAl207, hBp208, ((hF201.1 70 rfl).trans (e173)), ((hF201.1 79 rfl).trans (e174)), ((hF201.1 77 rfl).trans ((hF171.1 77 rfl).trans ((hF141.1 77 rfl).trans ((hF112.1 77 rfl).trans ((hF84.1 77 rfl).trans ((hF57.1 77 rfl).trans ((hF31.1 77 rfl).trans ((hF6.1 77 rfl).trans (ex_lb1))))))))), ((hF201.1 81 rfl).trans ((hF171.1 81 rfl).trans ((hF141.1 81 rfl).trans ((hF112.1 81 rfl).trans ((hF84.1 81 rfl).trans ((hF57.1 81 rfl).trans ((hF31.1 81 rfl).trans ((hF6.1 81 rfl).trans (fx_81))))))))), ((hF201.1 89 rfl).trans ((hF171.1 89 rfl).trans ((hF141.1 89 rfl).trans ((hF112.1 89 rfl).trans ((hF84.1 89 rfl).trans ((hF57.1 89 rfl).trans ((hF31.1 89 rfl).trans ((hF6.1 89 rfl).trans (fx_89))))))))), (congrFun ((hF201.2 51 rfl).trans ((hF171.2 51 rfl).trans ((hF141.2 51 rfl).trans ((hF112.2 51 rfl).trans ((hF84.2 51 rfl).trans ((hF57.2 51 rfl).trans ((hF31.2 51 rfl).trans (hF6.2 51 rfl)))))))) _).trans (ex_fw1), by omega, by omega, by omega, by omega, by omega, (Cd_mk (fun hC => by have := Cd_ap iv_16 (by omega); omega)), by omega, (Cd_mk (fun hC => Cd_ap hBo221 (by omega))), by omega, by omega, by omega, sf210, (SA_su Vu_l sf211), (Cd_mk (fun hC => (gFo_mk (m2 := lb + 2) (by omega) (Cd_ap sf212 (by omega)) (SQ_c (ST_e (Cd_ap sf214 (by omega)) rfl (by omega)) (SQ_c (ST_e (Cd_ap sf215 (by omega)) rfl (by omega)) (SQ_c (ST_e (Cd_ap sf216 (by omega)) rfl (by omega)) (SQ_c (ST_e (Cd_ap sf217 (by omega)) rfl (by omega)) (SQ_c (ST_e (Cd_ap sf218 (by omega)) rfl (by omega)) (SQ_c (ST_e (Cd_ap sf219 (by omega)) rfl (by omega)) SQ_n)))))) (Cd_ap sf220 (by omega)) (LZ_su (Cd_ap sf213 (by omega)) (by omega) (by omega)) (LZ_mk (l0 := lb) (l1 := lb + 2) (by omega) (by have hr := Cd_ap iv_11 (by omega); omega) (by have hr := Cd_ap iv_11 (by omega); omega) ((show A198 50 (le).toNat = ls2_199 from (e202)).trans (by omega)))))), trivial⟩
set_option maxRecDepth 20000 in
set_option maxHeartbeats 4000000 in
theorem c_genFor_at_64 {X : jX} {k : Nat} (hN : GN X k) {d : Nat} {T0 : Nat → Nat → Int} {Q F Sn : Int → Int} {Vs : Nat → Prop} {sb pb : Int} {c0 c1 : jC} {G : Nat → Int} {A : Nat → Nat → Int} {T : jH} {n : Int} {hi a7 b7 s0 s1 fr z D bd : Int} {st lg lb nw al fw : Int} (hd : 2 * k + 63 ≤ d + 1) (hW : Wk G A) (e_st : G 70 = st) (e_lg : G 79 = lg) (e_lb : G 77 = lb) (e_nw : G 81 = nw) (e_al : G 89 = al) (e_fw : A 51 (nw).toNat = fw) (h_n : (-2147483648 : Int) ≤ n ∧ n ≤ 2147483647) (p_0 : TA T0 A) (p_1 : FA F (nw) A) (p_2 : SA T0 Vs Sn A) (p_3 : VW T0 Vs (nw)) (p_4 : 0 ≤ nw) (p_5 : nw + (k : Int) ≤ 38) (p_6 : 0 ≤ al) (p_7 : al + (k : Int) ≤ 38) (p_8 : 0 ≤ st) (p_9 : st ≤ 7000) (p_10 : 0 ≤ lb) (p_11 : lb + bd + 7000 - st ≤ 1900000000) (p_12 : hi ≤ 6999) (p_13 : sb ≤ 202) (p_14 : 0 ≤ n) (p_15 : n < hi) (p_16 : 0 ≤ T0 17 (n).toNat) (p_17 : T0 17 (n).toNat + 1 = s0) (p_18 : s0 ≤ s1) (p_19 : s1 ≤ sb) (p_20 : n + 1 ≤ a7) (p_21 : a7 ≤ b7) (p_22 : b7 ≤ hi) (p_23 : wE T0 Vs sb (20) (T0 19 (n).toNat) (n + 1) (a7)) (p_24 : wE T0 Vs sb (20) (T0 20 (n).toNat) (a7) (b7)) (p_25 : wP T0 sb pb (k) (Vu Vs (T0 17 (n).toNat)) (T0 21 (n).toNat) (b7) (hi) (s0) (s1)) (p_26 : VB (Vs) (T0 17 (n).toNat)) (p_27 : lP T0 (k) (T0 21 (n).toNat) (fr) (nw) (z) (D)) (p_28 : T0 7 (T0 17 (n).toNat).toNat = 9) (p_29 : 0 ≤ T0 9 (T0 17 (n).toNat).toNat) (p_30 : T0 9 (T0 17 (n).toNat).toNat + 2 ≤ 4000) (p_31 : T0 10 (T0 17 (n).toNat).toNat = nw) (p_32 : WB (n) (hi) (bd)) (p_33 : 1 ≤ fr) (p_34 : z ≤ 4000) (p_35 : 0 ≤ D) (p_36 : D ≤ 4000) (p_37 : -4000 ≤ fw - D) (p_38 : fw ≤ 0) (p_39 : pb ≤ 24) (p_40 : PV T0 pb) (p_41 : PA Q pb A) : ∀ (L : jL) (Gx : Nat → Int) (Ax : Nat → Nat → Int) (w lt le st1 lg1 lb1 fw1 : Int), jGet L 0 = some (.ref 66) → jGet L 1 = some (.int (i32 (n))) → jGet L 2 = some (.int (i32 w)) → jGet L 3 = some (.int (i32 lt)) → jGet L 4 = some (.int (i32 le)) → Wk Gx Ax → Fr [70, 77, 79, 81, 89] [13, 44, 45, 46, 47, 50, 51, 56, 57, 58] G A Gx Ax → Fx [44, 45, 46, 47] (st) A Ax → Fx [58] (8 * al) A Ax → Fx [56, 57] (8 * nw) A Ax → Cd (lg1 = 0 ∧ lb1 < 19999) (Fx [50] (lb + 1) A Ax) → Gx 70 = st1 → Gx 79 = lg1 → Gx 77 = lb1 → Ax 51 (nw).toNat = fw1 → Gx 81 = nw → Gx 89 = al → ((-2147483648 : Int) ≤ w ∧ w ≤ 2147483647) → ((-2147483648 : Int) ≤ lt ∧ lt ≤ 2147483647) → ((-2147483648 : Int) ≤ le ∧ le ≤ 2147483647) → (st ≤ st1) → (st1 ≤ 7000) → (lg ≤ lg1) → (lg1 ≤ 1) → (lb + 2 ≤ lb1) → (w = T0 9 (T0 17 (n).toNat).toNat) → (1 ≤ lt) → (lt ≤ 19999) → (1 ≤ le) → (le ≤ 19999) → (Cd (lb1 < 20000) (lt = lb + 1)) → (Cd (lb1 < 20000) (le = lb + 2)) → (fw1 = fw) → (FA F (nw) Ax) → (SA T0 Vs Sn Ax) → (Cd (lg1 = 0) (lb1 - (lb + 2) ≤ st1 - st)) → (lb1 - lb ≤ st1 - st + 2 + (b7 - (n + 1))) → (Cd (lg1 = 0 ∧ lb1 < 19999) (gF1 T0 Ax F Sn nw (n) (st) (st1) (lb + 2) (lb1))) → (Cd (lg1 = 0 ∧ lb1 < 19999) (LZ Ax (lt) (st1) (lb) (lb + 1))) → wj X d jm356 (64, L, [], rV c0 c1 Gx Ax T) (fun o V_q => ∃ (G_q : Nat → Int) (A_q : Nat → Nat → Int) (st2 : Int) (lg2 : Int) (lb2 : Int) (nw2 : Int) (al2 : Int) (fw2 : Int), V_q = rV c0 c1 G_q A_q T ∧ o = .inl none ∧ Wk G_q A_q ∧ Fr [70, 77, 79, 81, 89] [13, 44, 45, 46, 47, 50, 51, 56, 57, 58] G A G_q A_q ∧ Fx [44, 45, 46, 47] (st) A A_q ∧ Fx [58] (8 * al) A A_q ∧ Fx [56, 57] (8 * nw) A A_q ∧ G_q 70 = st2 ∧ G_q 79 = lg2 ∧ G_q 77 = lb2 ∧ G_q 81 = nw2 ∧ G_q 89 = al2 ∧ A_q 51 (nw).toNat = fw2 ∧ (st ≤ st2) ∧ (st2 ≤ 7000) ∧ (lg ≤ lg2) ∧ (lg2 ≤ 1) ∧ (lb ≤ lb2) ∧ (Cd (lg2 = 0) (lb2 - lb ≤ st2 - st)) ∧ (lb2 - lb ≤ st2 - st + bd) ∧ (Cd (lg2 = 0 ∧ lb2 < 19999) (Fx [50] (lb + 1) A A_q)) ∧ (nw2 = nw) ∧ (al2 = al) ∧ (fw2 = fw) ∧ (FA F (nw) A_q) ∧ (SA T0 Vs Sn A_q) ∧ (Cd (lg2 = 0 ∧ lb2 < 19999) (gFo T0 A_q F Sn nw (gP T0 A_q Q k F Sn nw) (n) (st) (st2) (lb) (lb2))) ∧ True) := by
  have hF0 : Fr [70, 77, 79, 81, 89] [13, 44, 45, 46, 47, 50, 51, 56, 57, 58] G A G A := Fr_rf
  have hC0 : Fx [44, 45, 46, 47] (st) A A := Fx_rf
  have hAl0 : Fx [58] (8 * al) A A := Fx_rf
  have hBp0 : Fx [56, 57] (8 * nw) A A := Fx_rf
  have b_st : (-2147483648 : Int) ≤ st ∧ st ≤ 2147483647 := e_st ▸ hW.1 70
  have b_lg : (0 : Int) ≤ lg ∧ lg ≤ 1 := e_lg ▸ hW.1 79
  have b_lb : (-2147483648 : Int) ≤ lb ∧ lb ≤ 2147483647 := e_lb ▸ hW.1 77
  have b_nw : (-2147483648 : Int) ≤ nw ∧ nw ≤ 2147483647 := e_nw ▸ hW.1 81
  have b_al : (-2147483648 : Int) ≤ al ∧ al ≤ 2147483647 := e_al ▸ hW.1 89
  have b_fw : (-2147483648 : Int) ≤ fw ∧ fw ≤ 2147483647 := e_fw ▸ hW.2 51 _
  have hWT := TA_w hW p_0
  have hBo0 : Cd (lg = 0 ∧ lb < 19999) (Fx [50] (lb + 1) A A) := Cd_mk (fun _ => Fx_rf)
  have hfw := FA_at p_1 p_4 e_fw
  have hbp := WB_p p_32 (by omega) (by omega) (by omega)
  intro L Gx Ax w lt le st1 lg1 lb1 fw1 gL_0 gL_1 gL_2 gL_3 gL_4 hWx hFx hCx hAlx hBpx hBox ex_st1 ex_lg1 ex_lb1 ex_fw1 fx_81 fx_89 rx_w rx_lt rx_le iv_0 iv_1 iv_2 iv_3 iv_4 iv_5 iv_6 iv_7 iv_8 iv_9 iv_10 iv_11 iv_12 iv_13 iv_14 iv_15 iv_16 iv_17 iv_18
  have b_st1 : (-2147483648 : Int) ≤ st1 ∧ st1 ≤ 2147483647 := ex_st1 ▸ hWx.1 70
  have b_lg1 : (0 : Int) ≤ lg1 ∧ lg1 ≤ 1 := ex_lg1 ▸ hWx.1 79
  have b_lb1 : (-2147483648 : Int) ≤ lb1 ∧ lb1 ≤ 2147483647 := ex_lb1 ▸ hWx.1 77
  refine jx_ld (pc_q := 65) (l_q := L) (st_q := [.ref 66]) rfl (jl_aloadn gL_0) ?_
  refine jx_ar (pc_q := 67) (st_q := [.int (i32 (7)), .ref 66]) rfl rfl rfl rfl ?_
  refine jx_ld (pc_q := 68) (l_q := L) (st_q := [.int (i32 (w)), .int (i32 (7)), .ref 66]) rfl (jl_iloadn gL_2) ?_
  refine jx_ar (pc_q := 69) (st_q := [.int (i32 (1)), .int (i32 (w)), .int (i32 (7)), .ref 66]) rfl rfl rfl rfl ?_
  refine jx_add (pc_q := 70) rfl rfl ?_
  refine jx_vr (pc_q := 73) (as := [.int (i32 (7)), .int (i32 ((w + 1)))]) (st := []) rfl rfl rfl rfl ⟨rfl, rfl, Nat.le_of_ble_eq_true rfl⟩ rfl rfl (c_emit (dd := d) (hd := by omega) (hW := hWx) (fn := 7) (v := (w + 1)) (st := st1) (e_st := show Gx 70 = st1 from (ex_st1)) (lg := lg1) (e_lg := show Gx 79 = lg1 from (ex_lg1))  (h_fn := ⟨(by decide), (by decide)⟩) (h_v := ⟨(by omega), (by omega)⟩)  (p_0 := by omega) (p_1 := by omega)) (fun o V_q hq => ?_)
  obtain ⟨G222, A223, st2_224, lg2_225, rfl, rfl, hW226, hF227, hQ228, e229, e230, p231, p232, p233, p234, p235, p236, -⟩ := hq
  have hF238 := Fr_tr hFx hF227 (Fr_sub (by decide)) (Fr_sub (by decide))
  have hC239 := Fx_tr hCx hQ228 (by omega)
  have hAl240 := Fx_f hAlx hF227 (by decide)
  have hBp241 := Fx_f hBpx hF227 (by decide)
  have sf242 := FA_fr (hF227.2 51 rfl) iv_13
  have sf243 := SA_fr (hF227.2 13 rfl) iv_14
  have bst2_224 : (-2147483648 : Int) ≤ st2_224 ∧ st2_224 ≤ 2147483647 := e229 ▸ hW226.1 70
  have blg2_225 : (0 : Int) ≤ lg2_225 ∧ lg2_225 ≤ 1 := e230 ▸ hW226.1 79
  refine .inl ⟨rfl, ?_⟩
  have sf244 : Cd (lg2_225 = 0 ∧ lb1 < 19999) (gF1 T0 A223 F Sn nw (n) (st) (st1) (lb + 2) (lb1)) := Cd_mk (fun hC => gF1_mv (Cg_fx (l0 := lb + 2) (l1 := lb1) hQ228 (Fx_f (w := lb1 + 1) Fx_rf hF227 (by decide)) (by omega)) (by omega) (Cd_ap iv_17 (by omega)))
  have sf245 : Cd (lg2_225 = 0 ∧ lb1 < 19999) (LZ A223 (lt) (st1) (lb) (lb + 1)) := Cd_mk (fun hC => LZ_mv (Cg_fx (l0 := lb) (l1 := lb + 1) hQ228 (Fx_f (w := lb + 1 + 1) Fx_rf hF227 (by decide)) (by omega)) (by omega) (Cd_ap iv_18 (by omega)))
  have hBo246 : Cd (lg2_225 = 0 ∧ lb1 < 19999) (Fx [50] (lb + 1) A A223) := Cd_mk (fun hC => Fx_f (Cd_ap hBox (by omega)) hF227 (by decide))
  refine jx_ld (pc_q := 74) (l_q := L) (st_q := [.ref 66]) rfl (jl_aloadn gL_0) ?_
  refine jx_ar (pc_q := 75) (st_q := [.int (i32 (4)), .ref 66]) rfl rfl rfl rfl ?_
  refine jx_ar (pc_q := 76) (st_q := [.int (i32 (0)), .int (i32 (4)), .ref 66]) rfl rfl rfl rfl ?_
  refine jx_vr (pc_q := 79) (as := [.int (i32 (4)), .int (i32 (0))]) (st := []) rfl rfl rfl rfl ⟨rfl, rfl, Nat.le_of_ble_eq_true rfl⟩ rfl rfl (c_emit (dd := d) (hd := by omega) (hW := hW226) (fn := 4) (v := 0) (st := st2_224) (e_st := show G222 70 = st2_224 from (e229)) (lg := lg2_225) (e_lg := show G222 79 = lg2_225 from (e230))  (h_fn := ⟨(by decide), (by decide)⟩) (h_v := ⟨(by decide), (by decide)⟩)  (p_0 := by omega) (p_1 := by omega)) (fun o V_q hq => ?_)
  obtain ⟨G247, A248, st2_249, lg2_250, rfl, rfl, hW251, hF252, hQ253, e254, e255, p256, p257, p258, p259, p260, p261, -⟩ := hq
  have hF263 := Fr_tr hF238 hF252 (Fr_sub (by decide)) (Fr_sub (by decide))
  have hC264 := Fx_tr hC239 hQ253 (by omega)
  have hAl265 := Fx_f hAl240 hF252 (by decide)
  have hBp266 := Fx_f hBp241 hF252 (by decide)
  have sf267 := FA_fr (hF252.2 51 rfl) sf242
  have sf268 := SA_fr (hF252.2 13 rfl) sf243
  have bst2_249 : (-2147483648 : Int) ≤ st2_249 ∧ st2_249 ≤ 2147483647 := e254 ▸ hW251.1 70
  have blg2_250 : (0 : Int) ≤ lg2_250 ∧ lg2_250 ≤ 1 := e255 ▸ hW251.1 79
  refine .inl ⟨rfl, ?_⟩
  have sf269 : Cd (lg2_250 = 0 ∧ lb1 < 19999) (gF1 T0 A248 F Sn nw (n) (st) (st1) (lb + 2) (lb1)) := Cd_mk (fun hC => gF1_mv (Cg_fx (l0 := lb + 2) (l1 := lb1) hQ253 (Fx_f (w := lb1 + 1) Fx_rf hF252 (by decide)) (by omega)) (by omega) (Cd_ap sf244 (by omega)))
  have sf270 : Cd (lg2_250 = 0 ∧ lb1 < 19999) (LZ A248 (lt) (st1) (lb) (lb + 1)) := Cd_mk (fun hC => LZ_mv (Cg_fx (l0 := lb) (l1 := lb + 1) hQ253 (Fx_f (w := lb + 1 + 1) Fx_rf hF252 (by decide)) (by omega)) (by omega) (Cd_ap sf245 (by omega)))
  have sf271 : Cd (lg2_250 = 0 ∧ lb1 < 19999) (ST A248 (st1) (st2_224) (7) (w + 1)) := Cd_mk (fun hC => ST_mv (Cg_fx (l0 := 0) (l1 := 0) hQ253 (Fx_f (w := 0 + 1) Fx_rf hF252 (by decide)) (by omega)) (by omega) (Cd_ap p236 (by omega)))
  have hBo272 : Cd (lg2_250 = 0 ∧ lb1 < 19999) (Fx [50] (lb + 1) A A248) := Cd_mk (fun hC => Fx_f (Cd_ap hBo246 (by omega)) hF252 (by decide))
  refine jx_ld (pc_q := 80) (l_q := L) (st_q := [.ref 66]) rfl (jl_aloadn gL_0) ?_
  refine jx_ar (pc_q := 82) (st_q := [.int (i32 (6)), .ref 66]) rfl rfl rfl rfl ?_
  refine jx_vr (pc_q := 85) (as := [.int (i32 (6))]) (st := []) rfl rfl rfl rfl ⟨rfl, rfl, Nat.le_of_ble_eq_true rfl⟩ rfl rfl (c_op (dd := d) (hd := by omega) (hW := hW251) (oo := 6) (st := st2_249) (e_st := show G247 70 = st2_249 from (e254)) (lg := lg2_250) (e_lg := show G247 79 = lg2_250 from (e255))  (h_oo := ⟨(by decide), (by decide)⟩)  (p_0 := by omega) (p_1 := by omega)) (fun o V_q hq => ?_)
  obtain ⟨G273, A274, st2_275, lg2_276, rfl, rfl, hW277, hF278, hQ279, e280, e281, p282, p283, p284, p285, p286, p287, -⟩ := hq
  have hF289 := Fr_tr hF263 hF278 (Fr_sub (by decide)) (Fr_sub (by decide))
  have hC290 := Fx_tr hC264 hQ279 (by omega)
  have hAl291 := Fx_f hAl265 hF278 (by decide)
  have hBp292 := Fx_f hBp266 hF278 (by decide)
  have sf293 := FA_fr (hF278.2 51 rfl) sf267
  have sf294 := SA_fr (hF278.2 13 rfl) sf268
  have bst2_275 : (-2147483648 : Int) ≤ st2_275 ∧ st2_275 ≤ 2147483647 := e280 ▸ hW277.1 70
  have blg2_276 : (0 : Int) ≤ lg2_276 ∧ lg2_276 ≤ 1 := e281 ▸ hW277.1 79
  refine .inl ⟨rfl, ?_⟩
  have sf295 : Cd (lg2_276 = 0 ∧ lb1 < 19999) (gF1 T0 A274 F Sn nw (n) (st) (st1) (lb + 2) (lb1)) := Cd_mk (fun hC => gF1_mv (Cg_fx (l0 := lb + 2) (l1 := lb1) hQ279 (Fx_f (w := lb1 + 1) Fx_rf hF278 (by decide)) (by omega)) (by omega) (Cd_ap sf269 (by omega)))
  have sf296 : Cd (lg2_276 = 0 ∧ lb1 < 19999) (LZ A274 (lt) (st1) (lb) (lb + 1)) := Cd_mk (fun hC => LZ_mv (Cg_fx (l0 := lb) (l1 := lb + 1) hQ279 (Fx_f (w := lb + 1 + 1) Fx_rf hF278 (by decide)) (by omega)) (by omega) (Cd_ap sf270 (by omega)))
  have sf297 : Cd (lg2_276 = 0 ∧ lb1 < 19999) (ST A274 (st1) (st2_224) (7) (w + 1)) := Cd_mk (fun hC => ST_mv (Cg_fx (l0 := 0) (l1 := 0) hQ279 (Fx_f (w := 0 + 1) Fx_rf hF278 (by decide)) (by omega)) (by omega) (Cd_ap sf271 (by omega)))
  have sf298 : Cd (lg2_276 = 0 ∧ lb1 < 19999) (ST A274 (st2_224) (st2_249) (4) (0)) := Cd_mk (fun hC => ST_mv (Cg_fx (l0 := 0) (l1 := 0) hQ279 (Fx_f (w := 0 + 1) Fx_rf hF278 (by decide)) (by omega)) (by omega) (Cd_ap p261 (by omega)))
  have hBo299 : Cd (lg2_276 = 0 ∧ lb1 < 19999) (Fx [50] (lb + 1) A A274) := Cd_mk (fun hC => Fx_f (Cd_ap hBo272 (by omega)) hF278 (by decide))
  refine jx_ld (pc_q := 86) (l_q := L) (st_q := [.ref 66]) rfl (jl_aloadn gL_0) ?_
  refine jx_ar (pc_q := 88) (st_q := [.int (i32 (10)), .ref 66]) rfl rfl rfl rfl ?_
  refine jx_ld (pc_q := 90) (l_q := L) (st_q := [.int (i32 (le)), .int (i32 (10)), .ref 66]) rfl (jl_iload gL_4) ?_
  refine jx_ar (pc_q := 91) (st_q := [.int (i32 (0)), .int (i32 (le)), .int (i32 (10)), .ref 66]) rfl rfl rfl rfl ?_
  refine jx_vr (pc_q := 94) (as := [.int (i32 (10)), .int (i32 (le)), .int (i32 (0))]) (st := []) rfl rfl rfl rfl ⟨rfl, rfl, Nat.le_of_ble_eq_true rfl⟩ rfl rfl (c_way (dd := d) (hd := by omega) (hW := hW277) (fn := 10) (to := le) (fr := 0) (st := st2_275) (e_st := show G273 70 = st2_275 from (e280)) (lg := lg2_276) (e_lg := show G273 79 = lg2_276 from (e281))  (h_fn := ⟨(by decide), (by decide)⟩) (h_to := ⟨(Int.le_trans (by decide : (-2147483648 : Int) ≤ -2147483648) rx_le.1), (Int.le_trans rx_le.2 (by decide : (2147483647 : Int) ≤ 2147483647))⟩) (h_fr := ⟨(by decide), (by decide)⟩)  (p_0 := by omega) (p_1 := by omega)) (fun o V_q hq => ?_)
  obtain ⟨G300, A301, st2_302, lg2_303, rfl, rfl, hW304, hF305, hQ306, e307, e308, p309, p310, p311, p312, p313, p314, -⟩ := hq
  have hF316 := Fr_tr hF289 hF305 (Fr_sub (by decide)) (Fr_sub (by decide))
  have hC317 := Fx_tr hC290 hQ306 (by omega)
  have hAl318 := Fx_f hAl291 hF305 (by decide)
  have hBp319 := Fx_f hBp292 hF305 (by decide)
  have sf320 := FA_fr (hF305.2 51 rfl) sf293
  have sf321 := SA_fr (hF305.2 13 rfl) sf294
  have bst2_302 : (-2147483648 : Int) ≤ st2_302 ∧ st2_302 ≤ 2147483647 := e307 ▸ hW304.1 70
  have blg2_303 : (0 : Int) ≤ lg2_303 ∧ lg2_303 ≤ 1 := e308 ▸ hW304.1 79
  refine .inl ⟨rfl, ?_⟩
  have sf322 : Cd (lg2_303 = 0 ∧ lb1 < 19999) (gF1 T0 A301 F Sn nw (n) (st) (st1) (lb + 2) (lb1)) := Cd_mk (fun hC => gF1_mv (Cg_fx (l0 := lb + 2) (l1 := lb1) hQ306 (Fx_f (w := lb1 + 1) Fx_rf hF305 (by decide)) (by omega)) (by omega) (Cd_ap sf295 (by omega)))
  have sf323 : Cd (lg2_303 = 0 ∧ lb1 < 19999) (LZ A301 (lt) (st1) (lb) (lb + 1)) := Cd_mk (fun hC => LZ_mv (Cg_fx (l0 := lb) (l1 := lb + 1) hQ306 (Fx_f (w := lb + 1 + 1) Fx_rf hF305 (by decide)) (by omega)) (by omega) (Cd_ap sf296 (by omega)))
  have sf324 : Cd (lg2_303 = 0 ∧ lb1 < 19999) (ST A301 (st1) (st2_224) (7) (w + 1)) := Cd_mk (fun hC => ST_mv (Cg_fx (l0 := 0) (l1 := 0) hQ306 (Fx_f (w := 0 + 1) Fx_rf hF305 (by decide)) (by omega)) (by omega) (Cd_ap sf297 (by omega)))
  have sf325 : Cd (lg2_303 = 0 ∧ lb1 < 19999) (ST A301 (st2_224) (st2_249) (4) (0)) := Cd_mk (fun hC => ST_mv (Cg_fx (l0 := 0) (l1 := 0) hQ306 (Fx_f (w := 0 + 1) Fx_rf hF305 (by decide)) (by omega)) (by omega) (Cd_ap sf298 (by omega)))
  have sf326 : Cd (lg2_303 = 0 ∧ lb1 < 19999) (ST A301 (st2_249) (st2_275) (15) (6)) := Cd_mk (fun hC => ST_mv (Cg_fx (l0 := 0) (l1 := 0) hQ306 (Fx_f (w := 0 + 1) Fx_rf hF305 (by decide)) (by omega)) (by omega) (Cd_ap p287 (by omega)))
  have hBo327 : Cd (lg2_303 = 0 ∧ lb1 < 19999) (Fx [50] (lb + 1) A A301) := Cd_mk (fun hC => Fx_f (Cd_ap hBo299 (by omega)) hF305 (by decide))
  obtain ⟨b1, hb1⟩ : ∃ b, WB b7 hi b := WB_ex _ _; have hbb := WB_in p_32 hb1 (by omega) (by omega) (by omega); have hSA2 := SA_u (t := T0 17 (n).toNat) sf321 (by omega); have hVW2 := VW_u (t := T0 17 (n).toNat) p_3 p_4 (by omega) (by omega); have hVB2 := VB_u (w := s0) p_26 (by omega) (by omega : T0 17 (n).toNat < s0)
  refine jx_ld (pc_q := 95) (l_q := L) (st_q := [.ref 66]) rfl (jl_aloadn gL_0) ?_
  refine jx_ld (pc_q := 96) (l_q := L) (st_q := [.ref 66, .ref 66]) rfl (jl_aloadn gL_0) ?_
  refine jr_get (pc_q := 99) (i := 38) (v := .ref 88) rfl rfl (by decide) rfl rfl ?_
  refine jx_ld (pc_q := 100) (l_q := L) (st_q := [.int (i32 (n)), .ref 88, .ref 66]) rfl (jl_iloadn gL_1) ?_
  have b328 : (-2147483648 : Int) ≤ T0 21 (n).toNat ∧ T0 21 (n).toNat ≤ 2147483647 := hWT.2 21 _
  refine jr_ldv (pc_q := 101) (i := 21) (m := 7000) (z := n) (y := T0 21 (n).toNat) rfl (by decide) rfl (by decide) (by omega) (by omega) rfl (show A301 21 (n).toNat = T0 21 (n).toNat from (congrFun ((hF305.2 21 rfl).trans ((hF278.2 21 rfl).trans ((hF252.2 21 rfl).trans ((hF227.2 21 rfl).trans ((hFx.2 21 rfl).trans (p_0 21 rfl)))))) _)) ?_
  refine jx_vr (pc_q := 104) (as := [.int (i32 (T0 21 (n).toNat))]) (st := []) rfl rfl rfl rfl ⟨rfl, rfl, Nat.le_of_ble_eq_true rfl⟩ rfl rfl (hN (dd := d) (hd := by omega) (hW := hW304) (p := T0 21 (n).toNat) (lo := b7) (hi := hi) (s0 := s0) (s1 := s1) (fr := fr) (z := z) (D := D) (bd := b1) (st := st2_302) (e_st := show G300 70 = st2_302 from (e307)) (lg := lg2_303) (e_lg := show G300 79 = lg2_303 from (e308)) (lb := lb1) (e_lb := show G300 77 = lb1 from ((hF305.1 77 rfl).trans ((hF278.1 77 rfl).trans ((hF252.1 77 rfl).trans ((hF227.1 77 rfl).trans (ex_lb1)))))) (nw := nw) (e_nw := show G300 81 = nw from ((hF305.1 81 rfl).trans ((hF278.1 81 rfl).trans ((hF252.1 81 rfl).trans ((hF227.1 81 rfl).trans (fx_81)))))) (al := al) (e_al := show G300 89 = al from ((hF305.1 89 rfl).trans ((hF278.1 89 rfl).trans ((hF252.1 89 rfl).trans ((hF227.1 89 rfl).trans (fx_89)))))) (fw := fw1) (e_fw := show A301 51 (nw).toNat = fw1 from (congrFun ((hF305.2 51 rfl).trans ((hF278.2 51 rfl).trans ((hF252.2 51 rfl).trans (hF227.2 51 rfl)))) _).trans (ex_fw1))  (h_p := ⟨(Int.le_trans (by decide : (-2147483648 : Int) ≤ -2147483648) b328.1), (Int.le_trans b328.2 (by decide : (2147483647 : Int) ≤ 2147483647))⟩)  (p_0 := (TA_fr hF316 (by decide) p_0)) (p_1 := sf320) (p_2 := hSA2) (p_3 := hVW2) (p_4 := by omega) (p_5 := by omega) (p_6 := by omega) (p_7 := by omega) (p_8 := by omega) (p_9 := by omega) (p_10 := by omega) (p_11 := by omega) (p_12 := by omega) (p_13 := by omega) (p_14 := by omega) (p_15 := by omega) (p_16 := by omega) (p_17 := p_25) (p_18 := (VB_mo hVB2 (by omega))) (p_19 := p_27) (p_20 := hb1) (p_21 := by omega) (p_22 := by omega) (p_23 := by omega) (p_24 := by omega) (p_25 := by omega) (p_26 := by omega) (p_27 := by omega) (p_28 := p_40) (p_29 := (PA_fr (hF316.2 52 rfl) p_41))) (fun o V_q hq => ?_)
  obtain ⟨G329, A330, st2_331, lg2_332, lb2_333, nw2_334, al2_335, fw2_336, rfl, rfl, hW337, hF338, hQ339, hQ340, hQ341, e342, e343, e344, e345, e346, e347, p348, p349, p350, p351, p352, p353, p354, p355, p356, p357, p358, p359, p360, p361, -⟩ := hq
  have hF363 := Fr_tr hF316 hF338 (Fr_sub (by decide)) (Fr_sub (by decide))
  have hC364 := Fx_tr hC317 hQ339 (by omega)
  have hAl365 := Fx_tr hAl318 hQ340 (by omega)
  have hBp366 := Fx_tr hBp319 hQ341 (by omega)
  have bst2_331 : (-2147483648 : Int) ≤ st2_331 ∧ st2_331 ≤ 2147483647 := e342 ▸ hW337.1 70
  have blg2_332 : (0 : Int) ≤ lg2_332 ∧ lg2_332 ≤ 1 := e343 ▸ hW337.1 79
  have blb2_333 : (-2147483648 : Int) ≤ lb2_333 ∧ lb2_333 ≤ 2147483647 := e344 ▸ hW337.1 77
  have bnw2_334 : (-2147483648 : Int) ≤ nw2_334 ∧ nw2_334 ≤ 2147483647 := e345 ▸ hW337.1 81
  have bal2_335 : (-2147483648 : Int) ≤ al2_335 ∧ al2_335 ≤ 2147483647 := e346 ▸ hW337.1 89
  have bfw2_336 : (-2147483648 : Int) ≤ fw2_336 ∧ fw2_336 ≤ 2147483647 := e347 ▸ hW337.2 51 _
  refine .inl ⟨rfl, ?_⟩
  have sf367 : Cd (lg2_332 = 0 ∧ lb2_333 < 19999) (gF1 T0 A330 F Sn nw (n) (st) (st1) (lb + 2) (lb1)) := Cd_mk (fun hC => gF1_mv (Cg_fx (l0 := lb + 2) (l1 := lb1) hQ339 (Cd_ap p355 (by omega)) (by omega)) (by omega) (Cd_ap sf322 (by omega)))
  have sf368 : Cd (lg2_332 = 0 ∧ lb2_333 < 19999) (LZ A330 (lt) (st1) (lb) (lb + 1)) := Cd_mk (fun hC => LZ_mv (Cg_fx (l0 := lb) (l1 := lb + 1) hQ339 (Cd_ap p355 (by omega)) (by omega)) (by omega) (Cd_ap sf323 (by omega)))
  have sf369 : Cd (lg2_332 = 0 ∧ lb2_333 < 19999) (ST A330 (st1) (st2_224) (7) (w + 1)) := Cd_mk (fun hC => ST_mv (Cg_fx (l0 := 0) (l1 := 0) hQ339 (Cd_ap p355 (by omega)) (by omega)) (by omega) (Cd_ap sf324 (by omega)))
  have sf370 : Cd (lg2_332 = 0 ∧ lb2_333 < 19999) (ST A330 (st2_224) (st2_249) (4) (0)) := Cd_mk (fun hC => ST_mv (Cg_fx (l0 := 0) (l1 := 0) hQ339 (Cd_ap p355 (by omega)) (by omega)) (by omega) (Cd_ap sf325 (by omega)))
  have sf371 : Cd (lg2_332 = 0 ∧ lb2_333 < 19999) (ST A330 (st2_249) (st2_275) (15) (6)) := Cd_mk (fun hC => ST_mv (Cg_fx (l0 := 0) (l1 := 0) hQ339 (Cd_ap p355 (by omega)) (by omega)) (by omega) (Cd_ap sf326 (by omega)))
  have sf372 : Cd (lg2_332 = 0 ∧ lb2_333 < 19999) (WY A330 (st2_275) (st2_302) (10) (le) (0)) := Cd_mk (fun hC => WY_mv (Cg_fx (l0 := 0) (l1 := 0) hQ339 (Cd_ap p355 (by omega)) (by omega)) (by omega) (Cd_ap p314 (by omega)))
  have hBo373 : Cd (lg2_332 = 0 ∧ lb2_333 < 19999) (Fx [50] (lb + 1) A A330) := Cd_mk (fun hC => Fx_tr (Cd_ap hBo327 (by omega)) (Cd_ap p355 (by omega)) (by omega))
  exact c_genFor_at_104 (X := X) (k := k) (hN := hN) (d := d) (T0 := T0) (Q := Q) (F := F) (Sn := Sn) (Vs := Vs) (sb := sb) (pb := pb) (c0 := c0) (c1 := c1) (G := G) (A := A) (T := T) (n := n) (hi := hi) (a7 := a7) (b7 := b7) (s0 := s0) (s1 := s1) (fr := fr) (z := z) (D := D) (bd := bd) (st := st) (lg := lg) (lb := lb) (nw := nw) (al := al) (fw := fw) (hd := hd) (hW := hW) (e_st := e_st) (e_lg := e_lg) (e_lb := e_lb) (e_nw := e_nw) (e_al := e_al) (e_fw := e_fw) (h_n := h_n) (p_0 := p_0) (p_1 := p_1) (p_2 := p_2) (p_3 := p_3) (p_4 := p_4) (p_5 := p_5) (p_6 := p_6) (p_7 := p_7) (p_8 := p_8) (p_9 := p_9) (p_10 := p_10) (p_11 := p_11) (p_12 := p_12) (p_13 := p_13) (p_14 := p_14) (p_15 := p_15) (p_16 := p_16) (p_17 := p_17) (p_18 := p_18) (p_19 := p_19) (p_20 := p_20) (p_21 := p_21) (p_22 := p_22) (p_23 := p_23) (p_24 := p_24) (p_25 := p_25) (p_26 := p_26) (p_27 := p_27) (p_28 := p_28) (p_29 := p_29) (p_30 := p_30) (p_31 := p_31) (p_32 := p_32) (p_33 := p_33) (p_34 := p_34) (p_35 := p_35) (p_36 := p_36) (p_37 := p_37) (p_38 := p_38) (p_39 := p_39) (p_40 := p_40) (p_41 := p_41) L G329 A330 (w) (lt) (le) (st2_331) (lg2_332) (lb2_333) (fw2_336) (st1) gL_0 gL_1 gL_2 gL_3 gL_4 hW337 hF363 hC364 hAl365 hBp366 (Cd_mk (fun hC => Cd_ap hBo373 (by omega))) ((e342)) ((e343)) ((e344)) ((e347)) (Eq.trans (show G329 81 = nw2_334 from (e345)) (by omega)) (Eq.trans (show G329 89 = al2_335 from (e346)) (by omega)) (by omega) (by omega) (by omega) (by omega) (by omega) (by omega) (by omega) (by omega) (by omega) (by omega) (by omega) (by omega) (by omega) ((Cd_mk (fun hC => (by have hr := Cd_ap iv_10 (by omega); omega)))) ((Cd_mk (fun hC => (by have hr := Cd_ap iv_11 (by omega); omega)))) (by omega) (p359) (by omega) (p360) ((Cd_mk (fun hC => by have := Cd_ap iv_15 (by omega); have := Cd_ap p353 (by omega); omega))) (by omega) ((Cd_mk (fun hC => ⟨_, _, lb1, by omega, by omega, (Cd_ap sf367 (by omega)), (SQ_c (ST_e (Cd_ap sf369 (by omega)) rfl (by omega)) (SQ_c (ST_e (Cd_ap sf370 (by omega)) rfl (by omega)) (SQ_c (ST_e (Cd_ap sf371 (by omega)) rfl (by omega)) SQ_n))), (Cd_ap sf372 (by omega)), (Cd_ap p361 (by omega))⟩))) ((Cd_mk (fun hC => (LZ_su (Cd_ap sf368 (by omega)) (by omega) (by omega)))))
set_option maxRecDepth 20000 in
set_option maxHeartbeats 4000000 in
theorem c_genFor {X : jX} {k : Nat} (hN : GN X k) {dd : Nat} {T0 : Nat → Nat → Int} {Q F Sn : Int → Int} {Vs : Nat → Prop} {sb pb : Int} {c0 c1 : jC} {G : Nat → Int} {A : Nat → Nat → Int} {T : jH} {n : Int} {hi a7 b7 s0 s1 fr z D bd : Int} {st lg lb nw al fw : Int} (hd : 2 * k + 63 ≤ dd) (hW : Wk G A) (e_st : G 70 = st) (e_lg : G 79 = lg) (e_lb : G 77 = lb) (e_nw : G 81 = nw) (e_al : G 89 = al) (e_fw : A 51 (nw).toNat = fw) (h_n : (-2147483648 : Int) ≤ n ∧ n ≤ 2147483647) (p_0 : TA T0 A) (p_1 : FA F (nw) A) (p_2 : SA T0 Vs Sn A) (p_3 : VW T0 Vs (nw)) (p_4 : 0 ≤ nw) (p_5 : nw + (k : Int) ≤ 38) (p_6 : 0 ≤ al) (p_7 : al + (k : Int) ≤ 38) (p_8 : 0 ≤ st) (p_9 : st ≤ 7000) (p_10 : 0 ≤ lb) (p_11 : lb + bd + 7000 - st ≤ 1900000000) (p_12 : hi ≤ 6999) (p_13 : sb ≤ 202) (p_14 : 0 ≤ n) (p_15 : n < hi) (p_16 : 0 ≤ T0 17 (n).toNat) (p_17 : T0 17 (n).toNat + 1 = s0) (p_18 : s0 ≤ s1) (p_19 : s1 ≤ sb) (p_20 : n + 1 ≤ a7) (p_21 : a7 ≤ b7) (p_22 : b7 ≤ hi) (p_23 : wE T0 Vs sb (20) (T0 19 (n).toNat) (n + 1) (a7)) (p_24 : wE T0 Vs sb (20) (T0 20 (n).toNat) (a7) (b7)) (p_25 : wP T0 sb pb (k) (Vu Vs (T0 17 (n).toNat)) (T0 21 (n).toNat) (b7) (hi) (s0) (s1)) (p_26 : VB (Vs) (T0 17 (n).toNat)) (p_27 : lP T0 (k) (T0 21 (n).toNat) (fr) (nw) (z) (D)) (p_28 : T0 7 (T0 17 (n).toNat).toNat = 9) (p_29 : 0 ≤ T0 9 (T0 17 (n).toNat).toNat) (p_30 : T0 9 (T0 17 (n).toNat).toNat + 2 ≤ 4000) (p_31 : T0 10 (T0 17 (n).toNat).toNat = nw) (p_32 : WB (n) (hi) (bd)) (p_33 : 1 ≤ fr) (p_34 : z ≤ 4000) (p_35 : 0 ≤ D) (p_36 : D ≤ 4000) (p_37 : -4000 ≤ fw - D) (p_38 : fw ≤ 0) (p_39 : pb ≤ 24) (p_40 : PV T0 pb) (p_41 : PA Q pb A) : wk X dd 356 [.ref 66, .int (i32 n)] (rV c0 c1 G A T) (fun o V_q => ∃ (G_q : Nat → Int) (A_q : Nat → Nat → Int) (st2 : Int) (lg2 : Int) (lb2 : Int) (nw2 : Int) (al2 : Int) (fw2 : Int), V_q = rV c0 c1 G_q A_q T ∧ o = .inl none ∧ Wk G_q A_q ∧ Fr [70, 77, 79, 81, 89] [13, 44, 45, 46, 47, 50, 51, 56, 57, 58] G A G_q A_q ∧ Fx [44, 45, 46, 47] (st) A A_q ∧ Fx [58] (8 * al) A A_q ∧ Fx [56, 57] (8 * nw) A A_q ∧ G_q 70 = st2 ∧ G_q 79 = lg2 ∧ G_q 77 = lb2 ∧ G_q 81 = nw2 ∧ G_q 89 = al2 ∧ A_q 51 (nw).toNat = fw2 ∧ (st ≤ st2) ∧ (st2 ≤ 7000) ∧ (lg ≤ lg2) ∧ (lg2 ≤ 1) ∧ (lb ≤ lb2) ∧ (Cd (lg2 = 0) (lb2 - lb ≤ st2 - st)) ∧ (lb2 - lb ≤ st2 - st + bd) ∧ (Cd (lg2 = 0 ∧ lb2 < 19999) (Fx [50] (lb + 1) A A_q)) ∧ (nw2 = nw) ∧ (al2 = al) ∧ (fw2 = fw) ∧ (FA F (nw) A_q) ∧ (SA T0 Vs Sn A_q) ∧ (Cd (lg2 = 0 ∧ lb2 < 19999) (gFo T0 A_q F Sn nw (gP T0 A_q Q k F Sn nw) (n) (st) (st2) (lb) (lb2))) ∧ True) := by
  obtain ⟨d, rfl⟩ : ∃ d, dd = d + 1 := ⟨dd - 1, by omega⟩
  refine wk_of (e := jm356) rfl (Nat.le_of_ble_eq_true rfl) ?_
  show wj X d jm356 (0, [(0, .ref 66), (1, .int (i32 (n)))], [], rV c0 c1 G A T) _
  have hF0 : Fr [70, 77, 79, 81, 89] [13, 44, 45, 46, 47, 50, 51, 56, 57, 58] G A G A := Fr_rf
  have hC0 : Fx [44, 45, 46, 47] (st) A A := Fx_rf
  have hAl0 : Fx [58] (8 * al) A A := Fx_rf
  have hBp0 : Fx [56, 57] (8 * nw) A A := Fx_rf
  have b_st : (-2147483648 : Int) ≤ st ∧ st ≤ 2147483647 := e_st ▸ hW.1 70
  have b_lg : (0 : Int) ≤ lg ∧ lg ≤ 1 := e_lg ▸ hW.1 79
  have b_lb : (-2147483648 : Int) ≤ lb ∧ lb ≤ 2147483647 := e_lb ▸ hW.1 77
  have b_nw : (-2147483648 : Int) ≤ nw ∧ nw ≤ 2147483647 := e_nw ▸ hW.1 81
  have b_al : (-2147483648 : Int) ≤ al ∧ al ≤ 2147483647 := e_al ▸ hW.1 89
  have b_fw : (-2147483648 : Int) ≤ fw ∧ fw ≤ 2147483647 := e_fw ▸ hW.2 51 _
  have hWT := TA_w hW p_0
  have hBo0 : Cd (lg = 0 ∧ lb < 19999) (Fx [50] (lb + 1) A A) := Cd_mk (fun _ => Fx_rf)
  have hfw := FA_at p_1 p_4 e_fw
  have hbp := WB_p p_32 (by omega) (by omega) (by omega)
  refine jx_ld (pc_q := 1) (l_q := [(0, .ref 66), (1, .int (i32 (n)))]) (st_q := [.ref 66]) rfl (jl_aloadn rfl) ?_
  refine jr_get (pc_q := 4) (i := 23) (v := .ref 76) rfl rfl (by decide) rfl rfl ?_
  refine jx_ld (pc_q := 5) (l_q := [(0, .ref 66), (1, .int (i32 (n)))]) (st_q := [.ref 66, .ref 76]) rfl (jl_aloadn rfl) ?_
  refine jr_get (pc_q := 8) (i := 34) (v := .ref 84) rfl rfl (by decide) rfl rfl ?_
  refine jx_ld (pc_q := 9) (l_q := [(0, .ref 66), (1, .int (i32 (n)))]) (st_q := [.int (i32 (n)), .ref 84, .ref 76]) rfl (jl_iloadn rfl) ?_
  have b374 : (-2147483648 : Int) ≤ T0 17 (n).toNat ∧ T0 17 (n).toNat ≤ 2147483647 := hWT.2 17 _
  refine jr_ldv (pc_q := 10) (i := 17) (m := 7000) (z := n) (y := T0 17 (n).toNat) rfl (by decide) rfl (by decide) (by omega) (by omega) rfl (show A 17 (n).toNat = T0 17 (n).toNat from (congrFun (p_0 17 rfl) _)) ?_
  have b375 : (-2147483648 : Int) ≤ T0 9 (T0 17 (n).toNat).toNat ∧ T0 9 (T0 17 (n).toNat).toNat ≤ 2147483647 := hWT.2 9 _
  refine jr_ldv (pc_q := 11) (i := 9) (m := 260) (z := T0 17 (n).toNat) (y := T0 9 (T0 17 (n).toNat).toNat) rfl (by decide) rfl (by decide) (by omega) (by omega) rfl (show A 9 (T0 17 (n).toNat).toNat = T0 9 (T0 17 (n).toNat).toNat from (congrFun (p_0 9 rfl) _)) ?_
  refine jx_ld (pc_q := 12) (l_q := jSto1 [(0, .ref 66), (1, .int (i32 (n)))] 2 (.int (i32 (T0 9 (T0 17 (n).toNat).toNat)))) (st_q := []) rfl rfl ?_
  obtain ⟨L376, eL376⟩ : ∃ q, q = jSto1 [(0, .ref 66), (1, .int (i32 (n)))] 2 (.int (i32 (T0 9 (T0 17 (n).toNat).toNat))) := ⟨_, rfl⟩
  rw [← eL376]
  have gL376_0 : jGet L376 0 = some (.ref 66) := eL376 ▸ jg_ne (by decide) (rfl : jGet [(0, .ref 66), (1, .int (i32 (n)))] 0 = some (.ref 66)) rfl
  have gL376_1 : jGet L376 1 = some (.int (i32 (n))) := eL376 ▸ jg_ne (by decide) (rfl : jGet [(0, .ref 66), (1, .int (i32 (n)))] 1 = some (.int (i32 (n)))) rfl
  have gL376_2 : jGet L376 2 = some (.int (i32 (T0 9 (T0 17 (n).toNat).toNat))) := eL376 ▸ jg_eq
  refine jx_ld (pc_q := 13) (l_q := L376) (st_q := [.ref 66]) rfl (jl_aloadn gL376_0) ?_
  refine jx_vr (pc_q := 16) (as := []) (st := []) rfl rfl rfl rfl ⟨rfl, rfl, Nat.le_of_ble_eq_true rfl⟩ rfl rfl (c_label (dd := d) (hd := by omega) (hW := hW)  (lb := lb) (e_lb := show G 77 = lb from (e_lb))    (p_0 := by omega) (p_1 := by omega)) (fun o V_q hq => ?_)
  obtain ⟨G377, A378, r379, lb2_380, rfl, rfl, hW381, hF382, b383, e384, p385, p386, p387, p388, -⟩ := hq
  have hF390 := Fr_tr hF0 hF382 (Fr_sub (by decide)) (Fr_sub (by decide))
  have hC391 := Fx_f hC0 hF382 (by decide)
  have hAl392 := Fx_f hAl0 hF382 (by decide)
  have hBp393 := Fx_f hBp0 hF382 (by decide)
  have sf394 := FA_fr (hF382.2 51 rfl) p_1
  have sf395 := SA_fr (hF382.2 13 rfl) p_2
  have blb2_380 : (-2147483648 : Int) ≤ lb2_380 ∧ lb2_380 ≤ 2147483647 := e384 ▸ hW381.1 77
  refine .inr ⟨_, rfl, ?_⟩
  have hBo396 : Cd (lg = 0 ∧ lb2_380 < 19999) (Fx [50] (lb + 1) A A378) := Cd_mk (fun hC => Fx_f (Cd_ap hBo0 (by omega)) hF382 (by decide))
  refine jx_ld (pc_q := 17) (l_q := jSto1 L376 3 (.int (i32 (r379)))) (st_q := []) rfl rfl ?_
  obtain ⟨L397, eL397⟩ : ∃ q, q = jSto1 L376 3 (.int (i32 (r379))) := ⟨_, rfl⟩
  rw [← eL397]
  have gL397_0 : jGet L397 0 = some (.ref 66) := eL397 ▸ jg_ne (by decide) gL376_0 rfl
  have gL397_1 : jGet L397 1 = some (.int (i32 (n))) := eL397 ▸ jg_ne (by decide) gL376_1 rfl
  have gL397_2 : jGet L397 2 = some (.int (i32 (T0 9 (T0 17 (n).toNat).toNat))) := eL397 ▸ jg_ne (by decide) gL376_2 rfl
  have gL397_3 : jGet L397 3 = some (.int (i32 (r379))) := eL397 ▸ jg_eq
  have _q : True := trivial
  refine jx_ld (pc_q := 18) (l_q := L397) (st_q := [.ref 66]) rfl (jl_aloadn gL397_0) ?_
  refine jx_vr (pc_q := 21) (as := []) (st := []) rfl rfl rfl rfl ⟨rfl, rfl, Nat.le_of_ble_eq_true rfl⟩ rfl rfl (c_label (dd := d) (hd := by omega) (hW := hW381)  (lb := lb2_380) (e_lb := show G377 77 = lb2_380 from (e384))    (p_0 := by omega) (p_1 := by omega)) (fun o V_q hq => ?_)
  obtain ⟨G398, A399, r400, lb2_401, rfl, rfl, hW402, hF403, b404, e405, p406, p407, p408, p409, -⟩ := hq
  have hF411 := Fr_tr hF390 hF403 (Fr_sub (by decide)) (Fr_sub (by decide))
  have hC412 := Fx_f hC391 hF403 (by decide)
  have hAl413 := Fx_f hAl392 hF403 (by decide)
  have hBp414 := Fx_f hBp393 hF403 (by decide)
  have sf415 := FA_fr (hF403.2 51 rfl) sf394
  have sf416 := SA_fr (hF403.2 13 rfl) sf395
  have blb2_401 : (-2147483648 : Int) ≤ lb2_401 ∧ lb2_401 ≤ 2147483647 := e405 ▸ hW402.1 77
  refine .inr ⟨_, rfl, ?_⟩
  have hBo417 : Cd (lg = 0 ∧ lb2_401 < 19999) (Fx [50] (lb + 1) A A399) := Cd_mk (fun hC => Fx_f (Cd_ap hBo396 (by omega)) hF403 (by decide))
  refine jx_ld (pc_q := 23) (l_q := jSto1 L397 4 (.int (i32 (r400)))) (st_q := []) rfl rfl ?_
  obtain ⟨L418, eL418⟩ : ∃ q, q = jSto1 L397 4 (.int (i32 (r400))) := ⟨_, rfl⟩
  rw [← eL418]
  have gL418_0 : jGet L418 0 = some (.ref 66) := eL418 ▸ jg_ne (by decide) gL397_0 rfl
  have gL418_1 : jGet L418 1 = some (.int (i32 (n))) := eL418 ▸ jg_ne (by decide) gL397_1 rfl
  have gL418_2 : jGet L418 2 = some (.int (i32 (T0 9 (T0 17 (n).toNat).toNat))) := eL418 ▸ jg_ne (by decide) gL397_2 rfl
  have gL418_3 : jGet L418 3 = some (.int (i32 (r379))) := eL418 ▸ jg_ne (by decide) gL397_3 rfl
  have gL418_4 : jGet L418 4 = some (.int (i32 (r400))) := eL418 ▸ jg_eq
  have _q : True := trivial
  refine jx_ld (pc_q := 24) (l_q := L418) (st_q := [.ref 66]) rfl (jl_aloadn gL418_0) ?_
  refine jx_ld (pc_q := 25) (l_q := L418) (st_q := [.ref 66, .ref 66]) rfl (jl_aloadn gL418_0) ?_
  refine jr_get (pc_q := 28) (i := 36) (v := .ref 86) rfl rfl (by decide) rfl rfl ?_
  refine jx_ld (pc_q := 29) (l_q := L418) (st_q := [.int (i32 (n)), .ref 86, .ref 66]) rfl (jl_iloadn gL418_1) ?_
  have b419 : (-2147483648 : Int) ≤ T0 19 (n).toNat ∧ T0 19 (n).toNat ≤ 2147483647 := hWT.2 19 _
  refine jr_ldv (pc_q := 30) (i := 19) (m := 7000) (z := n) (y := T0 19 (n).toNat) rfl (by decide) rfl (by decide) (by omega) (by omega) rfl (show A399 19 (n).toNat = T0 19 (n).toNat from (congrFun ((hF403.2 19 rfl).trans ((hF382.2 19 rfl).trans (p_0 19 rfl))) _)) ?_
  refine jx_vr (pc_q := 33) (as := [.int (i32 (T0 19 (n).toNat))]) (st := []) rfl rfl rfl rfl ⟨rfl, rfl, Nat.le_of_ble_eq_true rfl⟩ rfl rfl (GE_all X 22 (dd := d) (hd := by omega) (hW := hW402) (e := T0 19 (n).toNat) (lo := n + 1) (hi := a7) (st := st) (e_st := show G398 70 = st from ((hF403.1 70 rfl).trans ((hF382.1 70 rfl).trans (e_st)))) (lg := lg) (e_lg := show G398 79 = lg from ((hF403.1 79 rfl).trans ((hF382.1 79 rfl).trans (e_lg)))) (lb := lb2_401) (e_lb := show G398 77 = lb2_401 from (e405)) (nw := nw) (e_nw := show G398 81 = nw from ((hF403.1 81 rfl).trans ((hF382.1 81 rfl).trans (e_nw))))  (h_e := ⟨(Int.le_trans (by decide : (-2147483648 : Int) ≤ -2147483648) b419.1), (Int.le_trans b419.2 (by decide : (2147483647 : Int) ≤ 2147483647))⟩)  (p_0 := (TA_fr hF411 (by decide) p_0)) (p_1 := sf415) (p_2 := sf416) (p_3 := p_3) (p_4 := by omega) (p_5 := by omega) (p_6 := by omega) (p_7 := by omega) (p_8 := by omega) (p_9 := by omega) (p_10 := by omega) (p_11 := by omega) (p_12 := by omega) (p_13 := (wE_mono (by omega) (by omega) (by omega) p_23)) (p_14 := by omega)) (fun o V_q hq => ?_)
  obtain ⟨G420, A421, st2_422, lg2_423, lb2_424, rfl, rfl, hW425, hF426, hQ427, e428, e429, e430, p431, p432, p433, p434, p435, p436, p437, p438, p439, -⟩ := hq
  have hF441 := Fr_tr hF411 hF426 (Fr_sub (by decide)) (Fr_sub (by decide))
  have hC442 := Fx_tr hC412 hQ427 (by omega)
  have hAl443 := Fx_f hAl413 hF426 (by decide)
  have hBp444 := Fx_f hBp414 hF426 (by decide)
  have sf445 := FA_fr (hF426.2 51 rfl) sf415
  have sf446 := SA_fr (hF426.2 13 rfl) sf416
  have bst2_422 : (-2147483648 : Int) ≤ st2_422 ∧ st2_422 ≤ 2147483647 := e428 ▸ hW425.1 70
  have blg2_423 : (0 : Int) ≤ lg2_423 ∧ lg2_423 ≤ 1 := e429 ▸ hW425.1 79
  have blb2_424 : (-2147483648 : Int) ≤ lb2_424 ∧ lb2_424 ≤ 2147483647 := e430 ▸ hW425.1 77
  refine .inl ⟨rfl, ?_⟩
  have hBo447 : Cd (lg2_423 = 0 ∧ lb2_424 < 19999) (Fx [50] (lb + 1) A A421) := Cd_mk (fun hC => Fx_tr (Cd_ap hBo417 (by omega)) (Cd_ap p438 (by omega)) (by omega))
  refine jx_ld (pc_q := 34) (l_q := L418) (st_q := [.ref 66]) rfl (jl_aloadn gL418_0) ?_
  refine jx_ar (pc_q := 36) (st_q := [.int (i32 (13)), .ref 66]) rfl rfl rfl rfl ?_
  refine jx_ld (pc_q := 37) (l_q := L418) (st_q := [.int (i32 (T0 9 (T0 17 (n).toNat).toNat)), .int (i32 (13)), .ref 66]) rfl (jl_iloadn gL418_2) ?_
  refine jx_vr (pc_q := 40) (as := [.int (i32 (13)), .int (i32 (T0 9 (T0 17 (n).toNat).toNat))]) (st := []) rfl rfl rfl rfl ⟨rfl, rfl, Nat.le_of_ble_eq_true rfl⟩ rfl rfl (c_emit (dd := d) (hd := by omega) (hW := hW425) (fn := 13) (v := T0 9 (T0 17 (n).toNat).toNat) (st := st2_422) (e_st := show G420 70 = st2_422 from (e428)) (lg := lg2_423) (e_lg := show G420 79 = lg2_423 from (e429))  (h_fn := ⟨(by decide), (by decide)⟩) (h_v := ⟨(Int.le_trans (by decide : (-2147483648 : Int) ≤ -2147483648) b375.1), (Int.le_trans b375.2 (by decide : (2147483647 : Int) ≤ 2147483647))⟩)  (p_0 := by omega) (p_1 := by omega)) (fun o V_q hq => ?_)
  obtain ⟨G448, A449, st2_450, lg2_451, rfl, rfl, hW452, hF453, hQ454, e455, e456, p457, p458, p459, p460, p461, p462, -⟩ := hq
  have hF464 := Fr_tr hF441 hF453 (Fr_sub (by decide)) (Fr_sub (by decide))
  have hC465 := Fx_tr hC442 hQ454 (by omega)
  have hAl466 := Fx_f hAl443 hF453 (by decide)
  have hBp467 := Fx_f hBp444 hF453 (by decide)
  have sf468 := FA_fr (hF453.2 51 rfl) sf445
  have sf469 := SA_fr (hF453.2 13 rfl) sf446
  have bst2_450 : (-2147483648 : Int) ≤ st2_450 ∧ st2_450 ≤ 2147483647 := e455 ▸ hW452.1 70
  have blg2_451 : (0 : Int) ≤ lg2_451 ∧ lg2_451 ≤ 1 := e456 ▸ hW452.1 79
  refine .inl ⟨rfl, ?_⟩
  have sf470 : Cd (lg2_451 = 0 ∧ lb2_424 < 19999) (gE T0 A449 F Sn nw (22) (T0 19 (n).toNat) (st) (st2_422) (lb2_401) (lb2_424)) := Cd_mk (fun hC => gE_mv (Cg_fx (l0 := lb2_401) (l1 := lb2_424) hQ454 (Fx_f (w := lb2_424 + 1) Fx_rf hF453 (by decide)) (by omega)) (by omega) (Cd_ap p439 (by omega)))
  have hBo471 : Cd (lg2_451 = 0 ∧ lb2_424 < 19999) (Fx [50] (lb + 1) A A449) := Cd_mk (fun hC => Fx_f (Cd_ap hBo447 (by omega)) hF453 (by decide))
  refine jx_ld (pc_q := 41) (l_q := L418) (st_q := [.ref 66]) rfl (jl_aloadn gL418_0) ?_
  refine jx_ld (pc_q := 42) (l_q := L418) (st_q := [.ref 66, .ref 66]) rfl (jl_aloadn gL418_0) ?_
  refine jr_get (pc_q := 45) (i := 37) (v := .ref 87) rfl rfl (by decide) rfl rfl ?_
  refine jx_ld (pc_q := 46) (l_q := L418) (st_q := [.int (i32 (n)), .ref 87, .ref 66]) rfl (jl_iloadn gL418_1) ?_
  have b472 : (-2147483648 : Int) ≤ T0 20 (n).toNat ∧ T0 20 (n).toNat ≤ 2147483647 := hWT.2 20 _
  refine jr_ldv (pc_q := 47) (i := 20) (m := 7000) (z := n) (y := T0 20 (n).toNat) rfl (by decide) rfl (by decide) (by omega) (by omega) rfl (show A449 20 (n).toNat = T0 20 (n).toNat from (congrFun ((hF453.2 20 rfl).trans ((hF426.2 20 rfl).trans ((hF403.2 20 rfl).trans ((hF382.2 20 rfl).trans (p_0 20 rfl))))) _)) ?_
  refine jx_vr (pc_q := 50) (as := [.int (i32 (T0 20 (n).toNat))]) (st := []) rfl rfl rfl rfl ⟨rfl, rfl, Nat.le_of_ble_eq_true rfl⟩ rfl rfl (GE_all X 22 (dd := d) (hd := by omega) (hW := hW452) (e := T0 20 (n).toNat) (lo := a7) (hi := b7) (st := st2_450) (e_st := show G448 70 = st2_450 from (e455)) (lg := lg2_451) (e_lg := show G448 79 = lg2_451 from (e456)) (lb := lb2_424) (e_lb := show G448 77 = lb2_424 from ((hF453.1 77 rfl).trans (e430))) (nw := nw) (e_nw := show G448 81 = nw from ((hF453.1 81 rfl).trans ((hF426.1 81 rfl).trans ((hF403.1 81 rfl).trans ((hF382.1 81 rfl).trans (e_nw))))))  (h_e := ⟨(Int.le_trans (by decide : (-2147483648 : Int) ≤ -2147483648) b472.1), (Int.le_trans b472.2 (by decide : (2147483647 : Int) ≤ 2147483647))⟩)  (p_0 := (TA_fr hF464 (by decide) p_0)) (p_1 := sf468) (p_2 := sf469) (p_3 := p_3) (p_4 := by omega) (p_5 := by omega) (p_6 := by omega) (p_7 := by omega) (p_8 := by omega) (p_9 := by omega) (p_10 := by omega) (p_11 := by omega) (p_12 := by omega) (p_13 := (wE_mono (by omega) (by omega) (by omega) p_24)) (p_14 := by omega)) (fun o V_q hq => ?_)
  obtain ⟨G473, A474, st2_475, lg2_476, lb2_477, rfl, rfl, hW478, hF479, hQ480, e481, e482, e483, p484, p485, p486, p487, p488, p489, p490, p491, p492, -⟩ := hq
  have hF494 := Fr_tr hF464 hF479 (Fr_sub (by decide)) (Fr_sub (by decide))
  have hC495 := Fx_tr hC465 hQ480 (by omega)
  have hAl496 := Fx_f hAl466 hF479 (by decide)
  have hBp497 := Fx_f hBp467 hF479 (by decide)
  have sf498 := FA_fr (hF479.2 51 rfl) sf468
  have sf499 := SA_fr (hF479.2 13 rfl) sf469
  have bst2_475 : (-2147483648 : Int) ≤ st2_475 ∧ st2_475 ≤ 2147483647 := e481 ▸ hW478.1 70
  have blg2_476 : (0 : Int) ≤ lg2_476 ∧ lg2_476 ≤ 1 := e482 ▸ hW478.1 79
  have blb2_477 : (-2147483648 : Int) ≤ lb2_477 ∧ lb2_477 ≤ 2147483647 := e483 ▸ hW478.1 77
  refine .inl ⟨rfl, ?_⟩
  have sf500 : Cd (lg2_476 = 0 ∧ lb2_477 < 19999) (gE T0 A474 F Sn nw (22) (T0 19 (n).toNat) (st) (st2_422) (lb2_401) (lb2_424)) := Cd_mk (fun hC => gE_mv (Cg_fx (l0 := lb2_401) (l1 := lb2_424) hQ480 (Cd_ap p491 (by omega)) (by omega)) (by omega) (Cd_ap sf470 (by omega)))
  have sf501 : Cd (lg2_476 = 0 ∧ lb2_477 < 19999) (ST A474 (st2_422) (st2_450) (13) (T0 9 (T0 17 (n).toNat).toNat)) := Cd_mk (fun hC => ST_mv (Cg_fx (l0 := 0) (l1 := 0) hQ480 (Cd_ap p491 (by omega)) (by omega)) (by omega) (Cd_ap p462 (by omega)))
  have hBo502 : Cd (lg2_476 = 0 ∧ lb2_477 < 19999) (Fx [50] (lb + 1) A A474) := Cd_mk (fun hC => Fx_tr (Cd_ap hBo471 (by omega)) (Cd_ap p491 (by omega)) (by omega))
  refine jx_ld (pc_q := 51) (l_q := L418) (st_q := [.ref 66]) rfl (jl_aloadn gL418_0) ?_
  refine jx_ar (pc_q := 53) (st_q := [.int (i32 (13)), .ref 66]) rfl rfl rfl rfl ?_
  refine jx_ld (pc_q := 54) (l_q := L418) (st_q := [.int (i32 (T0 9 (T0 17 (n).toNat).toNat)), .int (i32 (13)), .ref 66]) rfl (jl_iloadn gL418_2) ?_
  refine jx_ar (pc_q := 55) (st_q := [.int (i32 (1)), .int (i32 (T0 9 (T0 17 (n).toNat).toNat)), .int (i32 (13)), .ref 66]) rfl rfl rfl rfl ?_
  refine jx_add (pc_q := 56) rfl rfl ?_
  refine jx_vr (pc_q := 59) (as := [.int (i32 (13)), .int (i32 ((T0 9 (T0 17 (n).toNat).toNat + 1)))]) (st := []) rfl rfl rfl rfl ⟨rfl, rfl, Nat.le_of_ble_eq_true rfl⟩ rfl rfl (c_emit (dd := d) (hd := by omega) (hW := hW478) (fn := 13) (v := (T0 9 (T0 17 (n).toNat).toNat + 1)) (st := st2_475) (e_st := show G473 70 = st2_475 from (e481)) (lg := lg2_476) (e_lg := show G473 79 = lg2_476 from (e482))  (h_fn := ⟨(by decide), (by decide)⟩) (h_v := ⟨(by omega), (by omega)⟩)  (p_0 := by omega) (p_1 := by omega)) (fun o V_q hq => ?_)
  obtain ⟨G503, A504, st2_505, lg2_506, rfl, rfl, hW507, hF508, hQ509, e510, e511, p512, p513, p514, p515, p516, p517, -⟩ := hq
  have hF519 := Fr_tr hF494 hF508 (Fr_sub (by decide)) (Fr_sub (by decide))
  have hC520 := Fx_tr hC495 hQ509 (by omega)
  have hAl521 := Fx_f hAl496 hF508 (by decide)
  have hBp522 := Fx_f hBp497 hF508 (by decide)
  have sf523 := FA_fr (hF508.2 51 rfl) sf498
  have sf524 := SA_fr (hF508.2 13 rfl) sf499
  have bst2_505 : (-2147483648 : Int) ≤ st2_505 ∧ st2_505 ≤ 2147483647 := e510 ▸ hW507.1 70
  have blg2_506 : (0 : Int) ≤ lg2_506 ∧ lg2_506 ≤ 1 := e511 ▸ hW507.1 79
  refine .inl ⟨rfl, ?_⟩
  have sf525 : Cd (lg2_506 = 0 ∧ lb2_477 < 19999) (gE T0 A504 F Sn nw (22) (T0 19 (n).toNat) (st) (st2_422) (lb2_401) (lb2_424)) := Cd_mk (fun hC => gE_mv (Cg_fx (l0 := lb2_401) (l1 := lb2_424) hQ509 (Fx_f (w := lb2_424 + 1) Fx_rf hF508 (by decide)) (by omega)) (by omega) (Cd_ap sf500 (by omega)))
  have sf526 : Cd (lg2_506 = 0 ∧ lb2_477 < 19999) (ST A504 (st2_422) (st2_450) (13) (T0 9 (T0 17 (n).toNat).toNat)) := Cd_mk (fun hC => ST_mv (Cg_fx (l0 := 0) (l1 := 0) hQ509 (Fx_f (w := 0 + 1) Fx_rf hF508 (by decide)) (by omega)) (by omega) (Cd_ap sf501 (by omega)))
  have sf527 : Cd (lg2_506 = 0 ∧ lb2_477 < 19999) (gE T0 A504 F Sn nw (22) (T0 20 (n).toNat) (st2_450) (st2_475) (lb2_424) (lb2_477)) := Cd_mk (fun hC => gE_mv (Cg_fx (l0 := lb2_424) (l1 := lb2_477) hQ509 (Fx_f (w := lb2_477 + 1) Fx_rf hF508 (by decide)) (by omega)) (by omega) (Cd_ap p492 (by omega)))
  have hBo528 : Cd (lg2_506 = 0 ∧ lb2_477 < 19999) (Fx [50] (lb + 1) A A504) := Cd_mk (fun hC => Fx_f (Cd_ap hBo502 (by omega)) hF508 (by decide))
  refine jx_ld (pc_q := 60) (l_q := L418) (st_q := [.ref 66]) rfl (jl_aloadn gL418_0) ?_
  refine jx_ld (pc_q := 61) (l_q := L418) (st_q := [.int (i32 (r379)), .ref 66]) rfl (jl_iloadn gL418_3) ?_
  have _q : True := trivial
  refine jx_vr (pc_q := 64) (as := [.int (i32 (r379))]) (st := []) rfl rfl rfl rfl ⟨rfl, rfl, Nat.le_of_ble_eq_true rfl⟩ rfl rfl (c_set (dd := d) (hd := by omega) (hW := hW507) (l := r379) (st := st2_505) (e_st := show G503 70 = st2_505 from (e510))  (h_l := ⟨(Int.le_trans (by decide : (-2147483648 : Int) ≤ -2147483648) b383.1), (Int.le_trans b383.2 (by decide : (2147483647 : Int) ≤ 2147483647))⟩)  (p_0 := by omega) (p_1 := by omega)) (fun o V_q hq => ?_)
  obtain ⟨G529, A530, ls2_531, rfl, rfl, hW532, hF533, e534, p535, q536⟩ := hq
  have hF537 := Fr_tr hF519 hF533 (Fr_sub (by decide)) (Fr_sub (by decide))
  have hC538 := Fx_f hC520 hF533 (by decide)
  have hAl539 := Fx_f hAl521 hF533 (by decide)
  have hBp540 := Fx_f hBp522 hF533 (by decide)
  have bls2_531 : (-2147483648 : Int) ≤ ls2_531 ∧ ls2_531 ≤ 2147483647 := e534 ▸ hW532.2 50 _
  refine .inl ⟨rfl, ?_⟩
  have a541 := q536
  have sf542 := FA_fr ((congrFun a541 51).trans (uA_ne (by decide))) sf523
  have sf543 := SA_fr ((congrFun a541 13).trans (uA_ne (by decide))) sf524
  have sf544 : Cd (lg2_506 = 0 ∧ lb2_477 < 19999) (gE T0 A530 F Sn nw (22) (T0 19 (n).toNat) (st) (st2_422) (lb2_401) (lb2_424)) := Cd_mk (fun hC => gE_mv (Cg_set (K := st2_422) a541 (by omega) (by have hr := Cd_ap p388 (by omega); omega)) (Int.le_refl _) (Cd_ap sf525 (by omega)))
  have sf545 : Cd (lg2_506 = 0 ∧ lb2_477 < 19999) (ST A530 (st2_422) (st2_450) (13) (T0 9 (T0 17 (n).toNat).toNat)) := Cd_mk (fun hC => ST_mv (Cg_set (K := st2_450) (l0 := r379) (l1 := r379) a541 (by omega) (by omega)) (Int.le_refl _) (Cd_ap sf526 (by omega)))
  have sf546 : Cd (lg2_506 = 0 ∧ lb2_477 < 19999) (gE T0 A530 F Sn nw (22) (T0 20 (n).toNat) (st2_450) (st2_475) (lb2_424) (lb2_477)) := Cd_mk (fun hC => gE_mv (Cg_set (K := st2_475) a541 (by omega) (by have hr := Cd_ap p388 (by omega); omega)) (Int.le_refl _) (Cd_ap sf527 (by omega)))
  have sf547 : Cd (lg2_506 = 0 ∧ lb2_477 < 19999) (ST A530 (st2_475) (st2_505) (13) (T0 9 (T0 17 (n).toNat).toNat + 1)) := Cd_mk (fun hC => ST_mv (Cg_set (K := st2_505) (l0 := r379) (l1 := r379) a541 (by omega) (by omega)) (Int.le_refl _) (Cd_ap p517 (by omega)))
  have hBo548 : Cd (lg2_506 = 0 ∧ lb2_477 < 19999) (Fx [50] (lb + 1) A A530) := Cd_mk (fun hC => Fx_u a541 (Cd_ap hBo528 (by omega)) (by omega) (by have hr := Cd_ap p388 (by omega); omega))
  exact c_genFor_at_64 (X := X) (k := k) (hN := hN) (d := d) (T0 := T0) (Q := Q) (F := F) (Sn := Sn) (Vs := Vs) (sb := sb) (pb := pb) (c0 := c0) (c1 := c1) (G := G) (A := A) (T := T) (n := n) (hi := hi) (a7 := a7) (b7 := b7) (s0 := s0) (s1 := s1) (fr := fr) (z := z) (D := D) (bd := bd) (st := st) (lg := lg) (lb := lb) (nw := nw) (al := al) (fw := fw) (hd := hd) (hW := hW) (e_st := e_st) (e_lg := e_lg) (e_lb := e_lb) (e_nw := e_nw) (e_al := e_al) (e_fw := e_fw) (h_n := h_n) (p_0 := p_0) (p_1 := p_1) (p_2 := p_2) (p_3 := p_3) (p_4 := p_4) (p_5 := p_5) (p_6 := p_6) (p_7 := p_7) (p_8 := p_8) (p_9 := p_9) (p_10 := p_10) (p_11 := p_11) (p_12 := p_12) (p_13 := p_13) (p_14 := p_14) (p_15 := p_15) (p_16 := p_16) (p_17 := p_17) (p_18 := p_18) (p_19 := p_19) (p_20 := p_20) (p_21 := p_21) (p_22 := p_22) (p_23 := p_23) (p_24 := p_24) (p_25 := p_25) (p_26 := p_26) (p_27 := p_27) (p_28 := p_28) (p_29 := p_29) (p_30 := p_30) (p_31 := p_31) (p_32 := p_32) (p_33 := p_33) (p_34 := p_34) (p_35 := p_35) (p_36 := p_36) (p_37 := p_37) (p_38 := p_38) (p_39 := p_39) (p_40 := p_40) (p_41 := p_41) L418 G529 A530 (T0 9 (T0 17 (n).toNat).toNat) (r379) (r400) (st2_505) (lg2_506) (lb2_477) (fw) gL418_0 gL418_1 gL418_2 gL418_3 gL418_4 hW532 hF537 hC538 hAl539 hBp540 (Cd_mk (fun hC => Cd_ap hBo548 (by omega))) (((hF533.1 70 rfl).trans (e510))) (((hF533.1 79 rfl).trans (e511))) (((hF533.1 77 rfl).trans ((hF508.1 77 rfl).trans (e483)))) ((congrFun ((hF533.2 51 rfl).trans ((hF508.2 51 rfl).trans ((hF479.2 51 rfl).trans ((hF453.2 51 rfl).trans ((hF426.2 51 rfl).trans ((hF403.2 51 rfl).trans (hF382.2 51 rfl))))))) _).trans (e_fw)) (((hF533.1 81 rfl).trans ((hF508.1 81 rfl).trans ((hF479.1 81 rfl).trans ((hF453.1 81 rfl).trans ((hF426.1 81 rfl).trans ((hF403.1 81 rfl).trans ((hF382.1 81 rfl).trans (e_nw))))))))) (((hF533.1 89 rfl).trans ((hF508.1 89 rfl).trans ((hF479.1 89 rfl).trans ((hF453.1 89 rfl).trans ((hF426.1 89 rfl).trans ((hF403.1 89 rfl).trans ((hF382.1 89 rfl).trans (e_al))))))))) (by omega) (by omega) (by omega) (by omega) (by omega) (by omega) (by omega) (by omega) (by omega) (by omega) (by omega) (by omega) (by omega) ((Cd_mk (fun hC => (by have hr := Cd_ap p388 (by omega); omega)))) ((Cd_mk (fun hC => (by have hr := Cd_ap p409 (by omega); omega)))) (by omega) (sf542) (sf543) ((Cd_mk (fun hC => by have := Cd_ap p436 (by omega); have := Cd_ap p489 (by omega); omega))) (by omega) ((Cd_mk (fun hC => ⟨_, _, _, lb2_424, by omega, by omega, gE_su (by omega) (by omega) (Cd_ap sf544 (by omega)), (Cd_ap sf545 (by omega)), gE_su (by omega) (by omega) (Cd_ap sf546 (by omega)), (Cd_ap sf547 (by omega))⟩))) ((Cd_mk (fun hC => (LZ_mk (l0 := lb) (l1 := lb + 1) (by omega) (by have hr := Cd_ap p388 (by omega); omega) (by have hr := Cd_ap p388 (by omega); omega) ((show A530 50 (r379).toNat = ls2_531 from (e534)).trans (by omega))))))
