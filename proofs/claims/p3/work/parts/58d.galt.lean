theorem mt_lt {hi gm m1 : Int} {m : Nat} (hm : (hi - gm).toNat = m) (h1 : gm < m1) (h2 : m1 ≤ hi) : (hi - m1).toNat < m := by omega

set_option maxRecDepth 20000 in
set_option maxHeartbeats 4000000 in
theorem c_genAlt_at_407 {X : jX} {k : Nat} (hN : GN X k) {d : Nat} {T0 : Nat → Nat → Int} {Q F Sn : Int → Int} {Vs : Nat → Prop} {sb pb : Int} {c0 c1 : jC} {G : Nat → Int} {A : Nat → Nat → Int} {T : jH} {n : Int} {hi s0 s1 fr z D bd : Int} {st lg lb nw al fw : Int} (hd : 2 * k + 63 ≤ d + 1) (hW : Wk G A) (e_st : G 70 = st) (e_lg : G 79 = lg) (e_lb : G 77 = lb) (e_nw : G 81 = nw) (e_al : G 89 = al) (e_fw : A 51 (nw).toNat = fw) (h_n : (-2147483648 : Int) ≤ n ∧ n ≤ 2147483647) (p_0 : TA T0 A) (p_1 : FA F (nw) A) (p_2 : SA T0 Vs Sn A) (p_3 : VW T0 Vs (nw)) (p_4 : 0 ≤ nw) (p_5 : nw + (k : Int) + 1 ≤ 38) (p_6 : 0 ≤ al) (p_7 : al + (k : Int) + 1 ≤ 38) (p_8 : 0 ≤ st) (p_9 : st ≤ 7000) (p_10 : 0 ≤ lb) (p_11 : lb + bd + 7000 - st ≤ 1900000000) (p_12 : hi ≤ 6999) (p_13 : sb ≤ 202) (p_14 : 0 ≤ n) (p_15 : n < hi) (p_16 : 0 ≤ s0) (p_17 : s0 ≤ s1) (p_18 : s1 ≤ sb) (p_19 : 1 ≤ T0 18 (n).toNat) (p_20 : T0 18 (n).toNat ≤ 8) (p_21 : LN2 T0 (wG T0 Vs sb (wP T0 sb pb k Vs)) (T0 18 (n).toNat) (n) (T0 21 (n).toNat) (0) (n + 1) (hi) (s0) (s1) (n + 1) (s0)) (p_22 : VB (Vs) (s0)) (p_23 : (∀ l, CH T0 (T0 21 (n).toNat) l → ∀ c ∈ l, lG T0 (lP T0 k) (fr) (nw) (z) (D) c)) (p_24 : 0 ≤ T0 25 (n).toNat) (p_25 : T0 25 (n).toNat + 2 * T0 18 (n).toNat ≤ 4000) (p_26 : WB (n) (hi) (bd)) (p_27 : 1 ≤ fr) (p_28 : z ≤ 4000) (p_29 : 0 ≤ D) (p_30 : D ≤ 4000) (p_31 : -4000 ≤ fw - D) (p_32 : fw ≤ 0) (p_33 : pb ≤ 24) (p_34 : PV T0 pb) (p_35 : PA Q pb A) : ∀ (m : Nat) (L : jL) (Gx : Nat → Int) (Ax : Nat → Nat → Int) (le lf b4 i c st1 lg1 lb1 fw1 gm gt ge bs : Int) (La : Int → Int), (hi - gm).toNat = m → jGet L 0 = some (.ref 66) → jGet L 1 = some (.int (i32 (n))) → jGet L 2 = some (.int (i32 le)) → jGet L 3 = some (.int (i32 lf)) → jGet L 4 = some (.int (i32 b4)) → jGet L 5 = some (.int (i32 i)) → jGet L 6 = some (.int (i32 c)) → Wk Gx Ax → Fr [70, 77, 79, 81, 89] [13, 44, 45, 46, 47, 50, 51, 56, 57, 58] G A Gx Ax → Fx [44, 45, 46, 47] (st) A Ax → Fx [58] (8 * al) A Ax → Fx [56, 57] (8 * nw) A Ax → Cd (lg1 = 0 ∧ lb1 < 19999) (Fx [50] (lb + 1) A Ax) → Gx 70 = st1 → Gx 79 = lg1 → Gx 77 = lb1 → Ax 51 (nw).toNat = fw1 → Gx 81 = nw → Gx 89 = (al + 1) → ((-2147483648 : Int) ≤ le ∧ le ≤ 2147483647) → ((-2147483648 : Int) ≤ lf ∧ lf ≤ 2147483647) → ((-2147483648 : Int) ≤ b4 ∧ b4 ≤ 2147483647) → ((-2147483648 : Int) ≤ i ∧ i ≤ 2147483647) → ((-2147483648 : Int) ≤ c ∧ c ≤ 2147483647) → (st ≤ st1) → (st1 ≤ 7000) → (lg ≤ lg1) → (lg1 ≤ 1) → (lb + 2 ≤ lb1) → (Cd (lg1 = 0) (lb1 - lb ≤ st1 - st)) → (lb1 - lb ≤ st1 - st + 2 + 112000 + bs) → (1 ≤ le) → (le ≤ 19999) → (Cd (lb1 < 20000) (le = lb + 1)) → (1 ≤ lf) → (lf ≤ 19999) → (Cd (lb1 < 20000) (lf = lb + 2)) → (b4 = 8 * al) → (0 ≤ i) → (i ≤ T0 18 (n).toNat) → (n + 1 ≤ gm) → (gm ≤ hi) → (s0 ≤ gt) → (gt ≤ s1) → (fw1 = fw) → (FA F (nw) Ax) → (SA T0 Vs Sn Ax) → (LN2 T0 (wG T0 Vs sb (wP T0 sb pb k Vs)) (T0 18 (n).toNat) (n) (c) (i) (n + 1) (hi) (s0) (s1) (gm) (gt)) → (WB (n + 1) (gm) (bs)) → (ge ≤ st1) → (PE 58 (La) (b4) (T0 18 (n).toNat) Ax) → (LBd (La) (T0 18 (n).toNat)) → (Cd (lg1 = 0 ∧ lb1 < 19999) (LZ Ax (lf) (ge) (lb + 1) (lb + 2))) → (Cd (lg1 = 0 ∧ lb1 < 19999) (gA5 T0 Ax Q k (La) F Sn nw (n) ((i).toNat) (le) (lf) (st) (ge) (st1) (lb + 2) (lb1))) → wj X d jm359 (407, L, [], rV c0 c1 Gx Ax T) (fun o V_q => ∃ (G_q : Nat → Int) (A_q : Nat → Nat → Int) (st2 : Int) (lg2 : Int) (lb2 : Int) (nw2 : Int) (al2 : Int) (fw2 : Int), V_q = rV c0 c1 G_q A_q T ∧ o = .inl none ∧ Wk G_q A_q ∧ Fr [70, 77, 79, 81, 89] [13, 44, 45, 46, 47, 50, 51, 56, 57, 58] G A G_q A_q ∧ Fx [44, 45, 46, 47] (st) A A_q ∧ Fx [58] (8 * al) A A_q ∧ Fx [56, 57] (8 * nw) A A_q ∧ G_q 70 = st2 ∧ G_q 79 = lg2 ∧ G_q 77 = lb2 ∧ G_q 81 = nw2 ∧ G_q 89 = al2 ∧ A_q 51 (nw).toNat = fw2 ∧ (st ≤ st2) ∧ (st2 ≤ 7000) ∧ (lg ≤ lg2) ∧ (lg2 ≤ 1) ∧ (lb ≤ lb2) ∧ (Cd (lg2 = 0) (lb2 - lb ≤ st2 - st)) ∧ (lb2 - lb ≤ st2 - st + bd) ∧ (Cd (lg2 = 0 ∧ lb2 < 19999) (Fx [50] (lb + 1) A A_q)) ∧ (nw2 = nw) ∧ (al2 = al) ∧ (fw2 = fw) ∧ (FA F (nw) A_q) ∧ (SA T0 Vs Sn A_q) ∧ (Cd (lg2 = 0 ∧ lb2 < 19999) (gAl T0 A_q F Sn nw (gP T0 A_q Q k F Sn nw) (n) (st) (st2) (lb) (lb2))) ∧ True) := by
  have hF0 : Fr [70, 77, 79, 81, 89] [13, 44, 45, 46, 47, 50, 51, 56, 57, 58] G A G A := Fr_rf
  have hC0 : Fx [44, 45, 46, 47] (st) A A := Fx_rf
  have hAl0 : Fx [58] (8 * al) A A := Fx_rf
  have hBp0 : Fx [56, 57] (8 * nw) A A := Fx_rf
  have b_st : (-2147483648 : Int) ≤ st ∧ st ≤ 2147483647 := e_st ▸ hW.1 70
  have b_lg : (0 : Int) ≤ lg ∧ lg ≤ 1 := e_lg ▸ hW.1 79
  have b_lb : (-2147483648 : Int) ≤ lb ∧ lb ≤ 2147483647 := e_lb ▸ hW.1 77
  have b_nw : (-2147483648 : Int) ≤ nw ∧ nw ≤ 2147483647 := e_nw ▸ hW.1 81
  have b_al : (-2147483648 : Int) ≤ al ∧ al ≤ 2147483647 := e_al ▸ hW.1 89
  have b_fw : (-2147483648 : Int) ≤ fw ∧ fw ≤ 2147483647 := e_fw ▸ hW.2 51 _
  have hWT := TA_w hW p_0
  have hBo0 : Cd (lg = 0 ∧ lb < 19999) (Fx [50] (lb + 1) A A) := Cd_mk (fun _ => Fx_rf)
  have hfw := FA_at p_1 p_4 e_fw
  have hbp := WB_p p_26 (by omega) (by omega) (by omega)
  intro m
  induction m using Nat.strongRecOn with
  | ind m ih407 =>
    intro L Gx Ax le lf b4 i c st1 lg1 lb1 fw1 gm gt ge bs La hm gL_0 gL_1 gL_2 gL_3 gL_4 gL_5 gL_6 hWx hFx hCx hAlx hBpx hBox ex_st1 ex_lg1 ex_lb1 ex_fw1 fx_81 fx_89 rx_le rx_lf rx_b4 rx_i rx_c iv_0 iv_1 iv_2 iv_3 iv_4 iv_5 iv_6 iv_7 iv_8 iv_9 iv_10 iv_11 iv_12 iv_13 iv_14 iv_15 iv_16 iv_17 iv_18 iv_19 iv_20 iv_21 iv_22 iv_23 iv_24 iv_25 iv_26 iv_27 iv_28 iv_29
    have b_st1 : (-2147483648 : Int) ≤ st1 ∧ st1 ≤ 2147483647 := ex_st1 ▸ hWx.1 70
    have b_lg1 : (0 : Int) ≤ lg1 ∧ lg1 ≤ 1 := ex_lg1 ▸ hWx.1 79
    have b_lb1 : (-2147483648 : Int) ≤ lb1 ∧ lb1 ≤ 2147483647 := ex_lb1 ▸ hWx.1 77
    refine jx_ld (pc_q := 409) (l_q := L) (st_q := [.int (i32 (c))]) rfl (jl_iload gL_6) ?_
    refine jx_if_le (pc_q := 412) (tg := 505) rfl rfl rfl (Int.le_trans (by decide : (-2147483648 : Int) ≤ -2147483648) rx_c.1) (Int.le_trans rx_c.2 (by decide : (2147483647 : Int) ≤ 2147483647)) (fun h1 => ?_) (fun h1 => ?_)
    · have _q := h1
      have hie := LN2_end iv_23 (by omega)
      have _q : True := trivial
      have hbe := WB_e p_26 iv_24 (by omega) (by omega)
      refine jx_ld (pc_q := 506) (l_q := L) (st_q := [.ref 66]) rfl (jl_aloadn gL_0) ?_
      refine jx_ar (pc_q := 507) (st_q := [.ref 66, .ref 66]) rfl rfl rfl rfl ?_
      refine jr_get (pc_q := 510) (i := 89) (v := .int (i32 ((al + 1)))) rfl rfl (by decide) (rFv_eq (by decide) (show Gx 89 = (al + 1) from (fx_89))) rfl ?_
      refine jx_ar (pc_q := 511) (st_q := [.int (i32 (1)), .int (i32 ((al + 1))), .ref 66]) rfl rfl rfl rfl ?_
      refine jx_sub (pc_q := 512) rfl rfl ?_
      refine jr_put (pc_q := 515) (i := 89) (z := ((al + 1) - 1)) rfl rfl (by decide) rfl rfl rfl rfl rfl rfl ?_
      have hW2 : Wk (uG Gx 89 (((al + 1) - 1))) Ax := Wk_g hWx (show (-2147483648 : Int) ≤ ((al + 1) - 1) by omega) (show ((al + 1) - 1) ≤ (2147483647 : Int) by omega)
      have hF3 := Fr_g (z := ((al + 1) - 1)) (i := 89) hFx (by decide)
      refine jx_ld (pc_q := 516) (l_q := L) (st_q := [.ref 66]) rfl (jl_aloadn gL_0) ?_
      refine jx_ld (pc_q := 517) (l_q := L) (st_q := [.int (i32 (le)), .ref 66]) rfl (jl_iloadn gL_2) ?_
      refine jx_vr (pc_q := 520) (as := [.int (i32 (le))]) (st := []) rfl rfl rfl rfl ⟨rfl, rfl, Nat.le_of_ble_eq_true rfl⟩ rfl rfl (c_set (dd := d) (hd := by omega) (hW := hW2) (l := le) (st := st1) (e_st := show (uG Gx 89 (((al + 1) - 1))) 70 = st1 from (ex_st1))  (h_l := ⟨(Int.le_trans (by decide : (-2147483648 : Int) ≤ -2147483648) rx_le.1), (Int.le_trans rx_le.2 (by decide : (2147483647 : Int) ≤ 2147483647))⟩)  (p_0 := by omega) (p_1 := by omega)) (fun o V_q hq => ?_)
      obtain ⟨G4, A5, ls2_6, rfl, rfl, hW7, hF8, e9, p10, q11⟩ := hq
      have hF12 := Fr_tr hF3 hF8 (Fr_sub (by decide)) (Fr_sub (by decide))
      have hC13 := Fx_f hCx hF8 (by decide)
      have hAl14 := Fx_f hAlx hF8 (by decide)
      have hBp15 := Fx_f hBpx hF8 (by decide)
      have bls2_6 : (-2147483648 : Int) ≤ ls2_6 ∧ ls2_6 ≤ 2147483647 := e9 ▸ hW7.2 50 _
      refine .inl ⟨rfl, ?_⟩
      have a16 := q11
      have sf17 := FA_fr ((congrFun a16 51).trans (uA_ne (by decide))) iv_21
      have sf18 := SA_fr ((congrFun a16 13).trans (uA_ne (by decide))) iv_22
      have sf19 : PE 58 (La) (b4) (T0 18 (n).toNat) A5 := PE_fr ((congrFun a16 58).trans (uA_ne (by decide))) iv_26
      have sf20 : Cd (lg1 = 0 ∧ lb1 < 19999) (LZ A5 (lf) (ge) (lb + 1) (lb + 2)) := Cd_mk (fun hC => LZ_mv (Cg_set (K := ge) a16 (by omega) (by have hr := Cd_ap iv_9 (by omega); omega)) (Int.le_refl _) (Cd_ap iv_28 (by omega)))
      have sf21 : Cd (lg1 = 0 ∧ lb1 < 19999) (gA5 T0 A5 Q k (La) F Sn nw (n) ((i).toNat) (le) (lf) (st) (ge) (st1) (lb + 2) (lb1)) := Cd_mk (fun hC => gA5_mv (Cg_set (K := st1) a16 (by omega) (by have hr := Cd_ap iv_9 (by omega); omega)) (Int.le_refl _) (Cd_ap iv_29 (by omega)))
      have hBo22 : Cd (lg1 = 0 ∧ lb1 < 19999) (Fx [50] (lb + 1) A A5) := Cd_mk (fun hC => Fx_u a16 (Cd_ap hBox (by omega)) (by omega) (by have hr := Cd_ap iv_9 (by omega); omega))
      refine jx_rt (v := none) rfl rfl rfl rfl rfl rfl ?_
      exact ⟨_, _, st1, lg1, lb1, nw, ((al + 1) - 1), fw1, rfl, rfl, hW7, hF12, hC13, hAl14, hBp15, ((hF8.1 70 rfl).trans (ex_st1)), ((hF8.1 79 rfl).trans (ex_lg1)), ((hF8.1 77 rfl).trans (ex_lb1)), ((hF8.1 81 rfl).trans (fx_81)), (hF8.1 89 rfl), (congrFun (hF8.2 51 rfl) _).trans (ex_fw1), by omega, by omega, by omega, by omega, by omega, (Cd_mk (fun hC => by have := Cd_ap iv_5 (by omega); omega)), by omega, (Cd_mk (fun hC => Cd_ap hBo22 (by omega))), by omega, by omega, by omega, sf17, sf18, (Cd_mk (fun hC => (gAl_mk (m1 := lb + 2) (by omega) (Cd_ap sf21 (by omega)) (by omega) (LZ_mk (l0 := lb) (l1 := lb + 2) (by omega) (by have hr := Cd_ap iv_9 (by omega); omega) (by have hr := Cd_ap iv_9 (by omega); omega) ((show A5 50 (le).toNat = ls2_6 from (e9)).trans (by omega))) (LZ_su (Cd_ap sf20 (by omega)) (by omega) (by omega))))), trivial⟩
    · have _q := h1
      obtain ⟨hi0, hi1, hcx, m1, t1, q1, q2, q3, q4, q5, q6, ⟨i1, i2, x, i3, i4, i5, i6⟩, hnx⟩ := LN2_hd iv_23 (by omega); have hmt : (hi - m1).toNat < m := mt_lt hm (by omega) (by omega); have hla : Ax 58 (b4 + i).toNat = La i := iv_26 i (by omega) (by omega); have hlb := iv_27 i (by omega) (by omega); obtain ⟨b1, hb1⟩ : ∃ b, WB x m1 b := WB_ex _ _; obtain ⟨b2, hb2⟩ : ∃ b, WB (n + 1) m1 b := WB_ex _ _; have hbn := WB_nx iv_24 hb1 hb2 (by omega) (by omega) (by omega); have hbe := WB_e p_26 hb2 (by omega) (by omega); have hly := (LN2_lay iv_23 (by omega) p_23).2.2.2
      refine jx_ld (pc_q := 413) (l_q := L) (st_q := [.ref 66]) rfl (jl_aloadn gL_0) ?_
      refine jx_ld (pc_q := 414) (l_q := L) (st_q := [.ref 66, .ref 66]) rfl (jl_aloadn gL_0) ?_
      refine jr_get (pc_q := 417) (i := 88) (v := .ref 125) rfl rfl (by decide) rfl rfl ?_
      refine jx_ld (pc_q := 419) (l_q := L) (st_q := [.int (i32 (b4)), .ref 125, .ref 66]) rfl (jl_iload gL_4) ?_
      refine jx_ld (pc_q := 421) (l_q := L) (st_q := [.int (i32 (i)), .int (i32 (b4)), .ref 125, .ref 66]) rfl (jl_iload gL_5) ?_
      refine jx_add (pc_q := 422) rfl rfl ?_
      have b23 : (-2147483648 : Int) ≤ Ax 58 ((b4 + i)).toNat ∧ Ax 58 ((b4 + i)).toNat ≤ 2147483647 := hWx.2 58 _
      refine jr_ldv (pc_q := 423) (i := 58) (m := 320) (z := (b4 + i)) (y := Ax 58 ((b4 + i)).toNat) rfl (by decide) rfl (by decide) (by omega) (by omega) rfl (show Ax 58 ((b4 + i)).toNat = Ax 58 ((b4 + i)).toNat from rfl) ?_
      refine jx_vr (pc_q := 426) (as := [.int (i32 (Ax 58 ((b4 + i)).toNat))]) (st := []) rfl rfl rfl rfl ⟨rfl, rfl, Nat.le_of_ble_eq_true rfl⟩ rfl rfl (c_set (dd := d) (hd := by omega) (hW := hWx) (l := Ax 58 ((b4 + i)).toNat) (st := st1) (e_st := show Gx 70 = st1 from (ex_st1))  (h_l := ⟨(Int.le_trans (by decide : (-2147483648 : Int) ≤ -2147483648) b23.1), (Int.le_trans b23.2 (by decide : (2147483647 : Int) ≤ 2147483647))⟩)  (p_0 := by omega) (p_1 := by omega)) (fun o V_q hq => ?_)
      obtain ⟨G24, A25, ls2_26, rfl, rfl, hW27, hF28, e29, p30, q31⟩ := hq
      have hF32 := Fr_tr hFx hF28 (Fr_sub (by decide)) (Fr_sub (by decide))
      have hC33 := Fx_f hCx hF28 (by decide)
      have hAl34 := Fx_f hAlx hF28 (by decide)
      have hBp35 := Fx_f hBpx hF28 (by decide)
      have bls2_26 : (-2147483648 : Int) ≤ ls2_26 ∧ ls2_26 ≤ 2147483647 := e29 ▸ hW27.2 50 _
      refine .inl ⟨rfl, ?_⟩
      have a36 := q31
      have sf37 := FA_fr ((congrFun a36 51).trans (uA_ne (by decide))) iv_21
      have sf38 := SA_fr ((congrFun a36 13).trans (uA_ne (by decide))) iv_22
      have sf39 : PE 58 (La) (b4) (T0 18 (n).toNat) A25 := PE_fr ((congrFun a36 58).trans (uA_ne (by decide))) iv_26
      have sf40 : Cd (lg1 = 0 ∧ lb1 < 19999) (LZ A25 (lf) (ge) (lb + 1) (lb + 2)) := Cd_mk (fun hC => LZ_mv (Cg_set (K := ge) a36 (by omega) (.inr (by have q := gA5_La (i := i) (Cd_ap iv_29 (by omega)) (by omega) (by omega); omega))) (Int.le_refl _) (Cd_ap iv_28 (by omega)))
      have sf41 : Cd (lg1 = 0 ∧ lb1 < 19999) (gA5 T0 A25 Q k (La) F Sn nw (n) ((i).toNat) (le) (lf) (st) (ge) (st1) (lb + 2) (lb1)) := Cd_mk (fun hC => gA5_set a36 hla (by omega) (by omega) (Cd_ap iv_29 (by omega)))
      have hBo42 : Cd (lg1 = 0 ∧ lb1 < 19999) (Fx [50] (lb + 1) A A25) := Cd_mk (fun hC => Fx_u a36 (Cd_ap hBox (by omega)) (by omega) (by have q := gA5_La (i := i) (Cd_ap sf41 (by omega)) (by omega) (by omega); omega))
      have hlsi : Cd (lg1 = 0 ∧ lb1 < 19999) (LZ A25 (La i) (st1) (lb + 2) (lb1)) := Cd_mk (fun hC => LZ_mk2 hla (by omega) (gA5_La (Cd_ap sf41 (by omega)) (by omega) (by omega)) ((show A25 50 (Ax 58 ((b4 + i)).toNat).toNat = ls2_26 from (e29)).trans (by omega)))
      refine jx_ld (pc_q := 427) (l_q := L) (st_q := [.ref 66]) rfl (jl_aloadn gL_0) ?_
      rcases i6 with ⟨k1, a, k2, k3, k4, k5⟩ | ⟨⟨k1, k1b⟩, k2⟩ | ⟨a, b, k1, k2, k3, k4, k5, k6⟩
      · have _q : True := trivial
        have hk18 := wR_kd k4
        refine jr_get (pc_q := 430) (i := 35) (v := .ref 85) rfl rfl (by decide) rfl rfl ?_
        refine jx_ld (pc_q := 432) (l_q := L) (st_q := [.int (i32 (c)), .ref 85]) rfl (jl_iload gL_6) ?_
        have b43 : (-2147483648 : Int) ≤ T0 18 (c).toNat ∧ T0 18 (c).toNat ≤ 2147483647 := hWT.2 18 _
        refine jr_ldv (pc_q := 433) (i := 18) (m := 7000) (z := c) (y := T0 18 (c).toNat) rfl (by decide) rfl (by decide) (by omega) (by omega) rfl (show A25 18 (c).toNat = T0 18 (c).toNat from (congrFun ((hF28.2 18 rfl).trans ((hFx.2 18 rfl).trans (p_0 18 rfl))) _)) ?_
        refine jx_if_le (pc_q := 436) (tg := 472) rfl rfl rfl (Int.le_trans (by decide : (-2147483648 : Int) ≤ -2147483648) b43.1) (Int.le_trans b43.2 (by decide : (2147483647 : Int) ≤ 2147483647)) (fun h44 => ?_) (fun h44 => ?_)
        · have _q := h44
          exfalso
          omega
        · have _q := h44
          have _q : True := trivial
          refine jx_ld (pc_q := 437) (l_q := L) (st_q := [.ref 66]) rfl (jl_aloadn gL_0) ?_
          refine jx_ld (pc_q := 438) (l_q := L) (st_q := [.ref 66, .ref 66]) rfl (jl_aloadn gL_0) ?_
          refine jr_get (pc_q := 441) (i := 36) (v := .ref 86) rfl rfl (by decide) rfl rfl ?_
          refine jx_ld (pc_q := 443) (l_q := L) (st_q := [.int (i32 (c)), .ref 86, .ref 66]) rfl (jl_iload gL_6) ?_
          have b45 : (-2147483648 : Int) ≤ T0 19 (c).toNat ∧ T0 19 (c).toNat ≤ 2147483647 := hWT.2 19 _
          refine jr_ldv (pc_q := 444) (i := 19) (m := 7000) (z := c) (y := T0 19 (c).toNat) rfl (by decide) rfl (by decide) (by omega) (by omega) rfl (show A25 19 (c).toNat = T0 19 (c).toNat from (congrFun ((hF28.2 19 rfl).trans ((hFx.2 19 rfl).trans (p_0 19 rfl))) _)) ?_
          refine jx_vr (pc_q := 447) (as := [.int (i32 (T0 19 (c).toNat))]) (st := []) rfl rfl rfl rfl ⟨rfl, rfl, Nat.le_of_ble_eq_true rfl⟩ rfl rfl (c_genAddress (dd := d) (k := 20) (hG := GE_all X 20) (hd := by omega) (hW := hW27) (x := T0 19 (c).toNat) (lo := a) (hi := x) (st := st1) (e_st := show G24 70 = st1 from ((hF28.1 70 rfl).trans (ex_st1))) (lg := lg1) (e_lg := show G24 79 = lg1 from ((hF28.1 79 rfl).trans (ex_lg1))) (lb := lb1) (e_lb := show G24 77 = lb1 from ((hF28.1 77 rfl).trans (ex_lb1))) (nw := nw) (e_nw := show G24 81 = nw from ((hF28.1 81 rfl).trans (fx_81)))  (h_x := ⟨(Int.le_trans (by decide : (-2147483648 : Int) ≤ -2147483648) b45.1), (Int.le_trans b45.2 (by decide : (2147483647 : Int) ≤ 2147483647))⟩)  (p_0 := (TA_fr hF32 (by decide) p_0)) (p_1 := sf37) (p_2 := sf38) (p_3 := p_3) (p_4 := by omega) (p_5 := by omega) (p_6 := by omega) (p_7 := by omega) (p_8 := by omega) (p_9 := by omega) (p_10 := by omega) (p_11 := by omega) (p_12 := by omega) (p_13 := (pX_wR k5)) (p_14 := by omega)) (fun o V_q hq => ?_)
          obtain ⟨G46, A47, st2_48, lg2_49, lb2_50, rfl, rfl, hW51, hF52, hQ53, e54, e55, e56, p57, p58, p59, p60, p61, p62, p63, p64, p65, -⟩ := hq
          have hF67 := Fr_tr hF32 hF52 (Fr_sub (by decide)) (Fr_sub (by decide))
          have hC68 := Fx_tr hC33 hQ53 (by omega)
          have hAl69 := Fx_f hAl34 hF52 (by decide)
          have hBp70 := Fx_f hBp35 hF52 (by decide)
          have sf71 := FA_fr (hF52.2 51 rfl) sf37
          have sf72 := SA_fr (hF52.2 13 rfl) sf38
          have sf73 : PE 58 (La) (b4) (T0 18 (n).toNat) A47 := PE_fr (hF52.2 58 rfl) sf39
          have bst2_48 : (-2147483648 : Int) ≤ st2_48 ∧ st2_48 ≤ 2147483647 := e54 ▸ hW51.1 70
          have blg2_49 : (0 : Int) ≤ lg2_49 ∧ lg2_49 ≤ 1 := e55 ▸ hW51.1 79
          have blb2_50 : (-2147483648 : Int) ≤ lb2_50 ∧ lb2_50 ≤ 2147483647 := e56 ▸ hW51.1 77
          refine .inl ⟨rfl, ?_⟩
          have sf74 : Cd (lg2_49 = 0 ∧ lb2_50 < 19999) (LZ A47 (lf) (ge) (lb + 1) (lb + 2)) := Cd_mk (fun hC => LZ_mv (Cg_fx (l0 := lb + 1) (l1 := lb + 2) hQ53 (Cd_ap p64 (by omega)) (by omega)) (by omega) (Cd_ap sf40 (by omega)))
          have sf75 : Cd (lg2_49 = 0 ∧ lb2_50 < 19999) (gA5 T0 A47 Q k (La) F Sn nw (n) ((i).toNat) (le) (lf) (st) (ge) (st1) (lb + 2) (lb1)) := Cd_mk (fun hC => gA5_mv (Cg_fx (l0 := lb + 2) (l1 := lb1) hQ53 (Cd_ap p64 (by omega)) (by omega)) (by omega) (Cd_ap sf41 (by omega)))
          have sf76 : Cd (lg2_49 = 0 ∧ lb2_50 < 19999) (LZ A47 (La i) (st1) (lb + 2) (lb1)) := Cd_mk (fun hC => LZ_mv (Cg_fx (l0 := lb + 2) (l1 := lb1) hQ53 (Cd_ap p64 (by omega)) (by omega)) (by omega) (Cd_ap hlsi (by omega)))
          have hBo77 : Cd (lg2_49 = 0 ∧ lb2_50 < 19999) (Fx [50] (lb + 1) A A47) := Cd_mk (fun hC => Fx_tr (Cd_ap hBo42 (by omega)) (Cd_ap p64 (by omega)) (by omega))
          refine jx_ld (pc_q := 448) (l_q := L) (st_q := [.ref 66]) rfl (jl_aloadn gL_0) ?_
          refine jx_ar (pc_q := 450) (st_q := [.int (i32 (7)), .ref 66]) rfl rfl rfl rfl ?_
          refine jx_ld (pc_q := 451) (l_q := L) (st_q := [.ref 66, .int (i32 (7)), .ref 66]) rfl (jl_aloadn gL_0) ?_
          refine jr_get (pc_q := 454) (i := 42) (v := .ref 92) rfl rfl (by decide) rfl rfl ?_
          refine jx_ld (pc_q := 455) (l_q := L) (st_q := [.int (i32 (n)), .ref 92, .int (i32 (7)), .ref 66]) rfl (jl_iloadn gL_1) ?_
          have b78 : (-2147483648 : Int) ≤ T0 25 (n).toNat ∧ T0 25 (n).toNat ≤ 2147483647 := hWT.2 25 _
          refine jr_ldv (pc_q := 456) (i := 25) (m := 7000) (z := n) (y := T0 25 (n).toNat) rfl (by decide) rfl (by decide) (by omega) (by omega) rfl (show A47 25 (n).toNat = T0 25 (n).toNat from (congrFun ((hF52.2 25 rfl).trans ((hF28.2 25 rfl).trans ((hFx.2 25 rfl).trans (p_0 25 rfl)))) _)) ?_
          refine jx_ar (pc_q := 457) (st_q := [.int (i32 (2)), .int (i32 (T0 25 (n).toNat)), .int (i32 (7)), .ref 66]) rfl rfl rfl rfl ?_
          refine jx_ld (pc_q := 459) (l_q := L) (st_q := [.int (i32 (i)), .int (i32 (2)), .int (i32 (T0 25 (n).toNat)), .int (i32 (7)), .ref 66]) rfl (jl_iload gL_5) ?_
          refine jx_mul (pc_q := 460) rfl rfl ?_
          refine jx_add (pc_q := 461) rfl rfl ?_
          refine jx_ar (pc_q := 462) (st_q := [.int (i32 (1)), .int (i32 ((T0 25 (n).toNat + (2 * i)))), .int (i32 (7)), .ref 66]) rfl rfl rfl rfl ?_
          refine jx_add (pc_q := 463) rfl rfl ?_
          refine jx_vr (pc_q := 466) (as := [.int (i32 (7)), .int (i32 (((T0 25 (n).toNat + (2 * i)) + 1)))]) (st := []) rfl rfl rfl rfl ⟨rfl, rfl, Nat.le_of_ble_eq_true rfl⟩ rfl rfl (c_emit (dd := d) (hd := by omega) (hW := hW51) (fn := 7) (v := ((T0 25 (n).toNat + (2 * i)) + 1)) (st := st2_48) (e_st := show G46 70 = st2_48 from (e54)) (lg := lg2_49) (e_lg := show G46 79 = lg2_49 from (e55))  (h_fn := ⟨(by decide), (by decide)⟩) (h_v := ⟨(by omega), (by omega)⟩)  (p_0 := by omega) (p_1 := by omega)) (fun o V_q hq => ?_)
          obtain ⟨G79, A80, st2_81, lg2_82, rfl, rfl, hW83, hF84, hQ85, e86, e87, p88, p89, p90, p91, p92, p93, -⟩ := hq
          have hF95 := Fr_tr hF67 hF84 (Fr_sub (by decide)) (Fr_sub (by decide))
          have hC96 := Fx_tr hC68 hQ85 (by omega)
          have hAl97 := Fx_f hAl69 hF84 (by decide)
          have hBp98 := Fx_f hBp70 hF84 (by decide)
          have sf99 := FA_fr (hF84.2 51 rfl) sf71
          have sf100 := SA_fr (hF84.2 13 rfl) sf72
          have sf101 : PE 58 (La) (b4) (T0 18 (n).toNat) A80 := PE_fr (hF84.2 58 rfl) sf73
          have bst2_81 : (-2147483648 : Int) ≤ st2_81 ∧ st2_81 ≤ 2147483647 := e86 ▸ hW83.1 70
          have blg2_82 : (0 : Int) ≤ lg2_82 ∧ lg2_82 ≤ 1 := e87 ▸ hW83.1 79
          refine .inl ⟨rfl, ?_⟩
          have sf102 : Cd (lg2_82 = 0 ∧ lb2_50 < 19999) (LZ A80 (lf) (ge) (lb + 1) (lb + 2)) := Cd_mk (fun hC => LZ_mv (Cg_fx (l0 := lb + 1) (l1 := lb + 2) hQ85 (Fx_f (w := lb + 2 + 1) Fx_rf hF84 (by decide)) (by omega)) (by omega) (Cd_ap sf74 (by omega)))
          have sf103 : Cd (lg2_82 = 0 ∧ lb2_50 < 19999) (gA5 T0 A80 Q k (La) F Sn nw (n) ((i).toNat) (le) (lf) (st) (ge) (st1) (lb + 2) (lb1)) := Cd_mk (fun hC => gA5_mv (Cg_fx (l0 := lb + 2) (l1 := lb1) hQ85 (Fx_f (w := lb1 + 1) Fx_rf hF84 (by decide)) (by omega)) (by omega) (Cd_ap sf75 (by omega)))
          have sf104 : Cd (lg2_82 = 0 ∧ lb2_50 < 19999) (LZ A80 (La i) (st1) (lb + 2) (lb1)) := Cd_mk (fun hC => LZ_mv (Cg_fx (l0 := lb + 2) (l1 := lb1) hQ85 (Fx_f (w := lb1 + 1) Fx_rf hF84 (by decide)) (by omega)) (by omega) (Cd_ap sf76 (by omega)))
          have sf105 : Cd (lg2_82 = 0 ∧ lb2_50 < 19999) (gD T0 A80 F Sn nw (20) (T0 19 (c).toNat) (st1) (st2_48) (lb1) (lb2_50)) := Cd_mk (fun hC => gD_mv (Cg_fx (l0 := lb1) (l1 := lb2_50) hQ85 (Fx_f (w := lb2_50 + 1) Fx_rf hF84 (by decide)) (by omega)) (by omega) (Cd_ap p65 (by omega)))
          have hBo106 : Cd (lg2_82 = 0 ∧ lb2_50 < 19999) (Fx [50] (lb + 1) A A80) := Cd_mk (fun hC => Fx_f (Cd_ap hBo77 (by omega)) hF84 (by decide))
          refine jx_ld (pc_q := 467) (l_q := L) (st_q := [.ref 66]) rfl (jl_aloadn gL_0) ?_
          refine jx_ar (pc_q := 469) (st_q := [.int (i32 (20)), .ref 66]) rfl rfl rfl rfl ?_
          refine jx_vr (pc_q := 472) (as := [.int (i32 (20))]) (st := []) rfl rfl rfl rfl ⟨rfl, rfl, Nat.le_of_ble_eq_true rfl⟩ rfl rfl (c_op (dd := d) (hd := by omega) (hW := hW83) (oo := 20) (st := st2_81) (e_st := show G79 70 = st2_81 from (e86)) (lg := lg2_82) (e_lg := show G79 79 = lg2_82 from (e87))  (h_oo := ⟨(by decide), (by decide)⟩)  (p_0 := by omega) (p_1 := by omega)) (fun o V_q hq => ?_)
          obtain ⟨G107, A108, st2_109, lg2_110, rfl, rfl, hW111, hF112, hQ113, e114, e115, p116, p117, p118, p119, p120, p121, -⟩ := hq
          have hF123 := Fr_tr hF95 hF112 (Fr_sub (by decide)) (Fr_sub (by decide))
          have hC124 := Fx_tr hC96 hQ113 (by omega)
          have hAl125 := Fx_f hAl97 hF112 (by decide)
          have hBp126 := Fx_f hBp98 hF112 (by decide)
          have sf127 := FA_fr (hF112.2 51 rfl) sf99
          have sf128 := SA_fr (hF112.2 13 rfl) sf100
          have sf129 : PE 58 (La) (b4) (T0 18 (n).toNat) A108 := PE_fr (hF112.2 58 rfl) sf101
          have bst2_109 : (-2147483648 : Int) ≤ st2_109 ∧ st2_109 ≤ 2147483647 := e114 ▸ hW111.1 70
          have blg2_110 : (0 : Int) ≤ lg2_110 ∧ lg2_110 ≤ 1 := e115 ▸ hW111.1 79
          refine .inl ⟨rfl, ?_⟩
          have sf130 : Cd (lg2_110 = 0 ∧ lb2_50 < 19999) (LZ A108 (lf) (ge) (lb + 1) (lb + 2)) := Cd_mk (fun hC => LZ_mv (Cg_fx (l0 := lb + 1) (l1 := lb + 2) hQ113 (Fx_f (w := lb + 2 + 1) Fx_rf hF112 (by decide)) (by omega)) (by omega) (Cd_ap sf102 (by omega)))
          have sf131 : Cd (lg2_110 = 0 ∧ lb2_50 < 19999) (gA5 T0 A108 Q k (La) F Sn nw (n) ((i).toNat) (le) (lf) (st) (ge) (st1) (lb + 2) (lb1)) := Cd_mk (fun hC => gA5_mv (Cg_fx (l0 := lb + 2) (l1 := lb1) hQ113 (Fx_f (w := lb1 + 1) Fx_rf hF112 (by decide)) (by omega)) (by omega) (Cd_ap sf103 (by omega)))
          have sf132 : Cd (lg2_110 = 0 ∧ lb2_50 < 19999) (LZ A108 (La i) (st1) (lb + 2) (lb1)) := Cd_mk (fun hC => LZ_mv (Cg_fx (l0 := lb + 2) (l1 := lb1) hQ113 (Fx_f (w := lb1 + 1) Fx_rf hF112 (by decide)) (by omega)) (by omega) (Cd_ap sf104 (by omega)))
          have sf133 : Cd (lg2_110 = 0 ∧ lb2_50 < 19999) (gD T0 A108 F Sn nw (20) (T0 19 (c).toNat) (st1) (st2_48) (lb1) (lb2_50)) := Cd_mk (fun hC => gD_mv (Cg_fx (l0 := lb1) (l1 := lb2_50) hQ113 (Fx_f (w := lb2_50 + 1) Fx_rf hF112 (by decide)) (by omega)) (by omega) (Cd_ap sf105 (by omega)))
          have sf134 : Cd (lg2_110 = 0 ∧ lb2_50 < 19999) (ST A108 (st2_48) (st2_81) (7) ((T0 25 (n).toNat + (2 * i)) + 1)) := Cd_mk (fun hC => ST_mv (Cg_fx (l0 := 0) (l1 := 0) hQ113 (Fx_f (w := 0 + 1) Fx_rf hF112 (by decide)) (by omega)) (by omega) (Cd_ap p93 (by omega)))
          have hBo135 : Cd (lg2_110 = 0 ∧ lb2_50 < 19999) (Fx [50] (lb + 1) A A108) := Cd_mk (fun hC => Fx_f (Cd_ap hBo106 (by omega)) hF112 (by decide))
          refine jx_ld (pc_q := 473) (l_q := L) (st_q := [.ref 66]) rfl (jl_aloadn gL_0) ?_
          refine jx_ld (pc_q := 474) (l_q := L) (st_q := [.ref 66, .ref 66]) rfl (jl_aloadn gL_0) ?_
          refine jr_get (pc_q := 477) (i := 38) (v := .ref 88) rfl rfl (by decide) rfl rfl ?_
          refine jx_ld (pc_q := 479) (l_q := L) (st_q := [.int (i32 (c)), .ref 88, .ref 66]) rfl (jl_iload gL_6) ?_
          have b136 : (-2147483648 : Int) ≤ T0 21 (c).toNat ∧ T0 21 (c).toNat ≤ 2147483647 := hWT.2 21 _
          refine jr_ldv (pc_q := 480) (i := 21) (m := 7000) (z := c) (y := T0 21 (c).toNat) rfl (by decide) rfl (by decide) (by omega) (by omega) rfl (show A108 21 (c).toNat = T0 21 (c).toNat from (congrFun ((hF112.2 21 rfl).trans ((hF84.2 21 rfl).trans ((hF52.2 21 rfl).trans ((hF28.2 21 rfl).trans ((hFx.2 21 rfl).trans (p_0 21 rfl)))))) _)) ?_
          refine jx_vr (pc_q := 483) (as := [.int (i32 (T0 21 (c).toNat))]) (st := []) rfl rfl rfl rfl ⟨rfl, rfl, Nat.le_of_ble_eq_true rfl⟩ rfl rfl (hN (dd := d) (hd := by omega) (hW := hW111) (p := T0 21 (c).toNat) (lo := x) (hi := m1) (s0 := gt) (s1 := t1) (fr := fr) (z := z) (D := D) (bd := b1) (st := st2_109) (e_st := show G107 70 = st2_109 from (e114)) (lg := lg2_110) (e_lg := show G107 79 = lg2_110 from (e115)) (lb := lb2_50) (e_lb := show G107 77 = lb2_50 from ((hF112.1 77 rfl).trans ((hF84.1 77 rfl).trans (e56)))) (nw := nw) (e_nw := show G107 81 = nw from ((hF112.1 81 rfl).trans ((hF84.1 81 rfl).trans ((hF52.1 81 rfl).trans ((hF28.1 81 rfl).trans (fx_81)))))) (al := (al + 1)) (e_al := show G107 89 = (al + 1) from ((hF112.1 89 rfl).trans ((hF84.1 89 rfl).trans ((hF52.1 89 rfl).trans ((hF28.1 89 rfl).trans (fx_89)))))) (fw := fw1) (e_fw := show A108 51 (nw).toNat = fw1 from (congrFun ((hF112.2 51 rfl).trans ((hF84.2 51 rfl).trans ((hF52.2 51 rfl).trans (hF28.2 51 rfl)))) _).trans (ex_fw1))  (h_p := ⟨(Int.le_trans (by decide : (-2147483648 : Int) ≤ -2147483648) b136.1), (Int.le_trans b136.2 (by decide : (2147483647 : Int) ≤ 2147483647))⟩)  (p_0 := (TA_fr hF123 (by decide) p_0)) (p_1 := sf127) (p_2 := sf128) (p_3 := p_3) (p_4 := by omega) (p_5 := by omega) (p_6 := by omega) (p_7 := by omega) (p_8 := by omega) (p_9 := by omega) (p_10 := by omega) (p_11 := by omega) (p_12 := by omega) (p_13 := by omega) (p_14 := by omega) (p_15 := by omega) (p_16 := by omega) (p_17 := i5) (p_18 := (VB_mo p_22 (by omega))) (p_19 := hly) (p_20 := hb1) (p_21 := by omega) (p_22 := by omega) (p_23 := by omega) (p_24 := by omega) (p_25 := by omega) (p_26 := by omega) (p_27 := by omega) (p_28 := p_34) (p_29 := (PA_fr (hF123.2 52 rfl) p_35))) (fun o V_q hq => ?_)
          obtain ⟨G137, A138, st2_139, lg2_140, lb2_141, nw2_142, al2_143, fw2_144, rfl, rfl, hW145, hF146, hQ147, hQ148, hQ149, e150, e151, e152, e153, e154, e155, p156, p157, p158, p159, p160, p161, p162, p163, p164, p165, p166, p167, p168, p169, -⟩ := hq
          have hF171 := Fr_tr hF123 hF146 (Fr_sub (by decide)) (Fr_sub (by decide))
          have hC172 := Fx_tr hC124 hQ147 (by omega)
          have hAl173 := Fx_tr hAl125 hQ148 (by omega)
          have hBp174 := Fx_tr hBp126 hQ149 (by omega)
          have sf175 : PE 58 (La) (b4) (T0 18 (n).toNat) A138 := PE_fx hQ148 rfl (by omega) (by omega) sf129
          have bst2_139 : (-2147483648 : Int) ≤ st2_139 ∧ st2_139 ≤ 2147483647 := e150 ▸ hW145.1 70
          have blg2_140 : (0 : Int) ≤ lg2_140 ∧ lg2_140 ≤ 1 := e151 ▸ hW145.1 79
          have blb2_141 : (-2147483648 : Int) ≤ lb2_141 ∧ lb2_141 ≤ 2147483647 := e152 ▸ hW145.1 77
          have bnw2_142 : (-2147483648 : Int) ≤ nw2_142 ∧ nw2_142 ≤ 2147483647 := e153 ▸ hW145.1 81
          have bal2_143 : (-2147483648 : Int) ≤ al2_143 ∧ al2_143 ≤ 2147483647 := e154 ▸ hW145.1 89
          have bfw2_144 : (-2147483648 : Int) ≤ fw2_144 ∧ fw2_144 ≤ 2147483647 := e155 ▸ hW145.2 51 _
          refine .inl ⟨rfl, ?_⟩
          have sf176 : Cd (lg2_140 = 0 ∧ lb2_141 < 19999) (LZ A138 (lf) (ge) (lb + 1) (lb + 2)) := Cd_mk (fun hC => LZ_mv (Cg_fx (l0 := lb + 1) (l1 := lb + 2) hQ147 (Cd_ap p163 (by omega)) (by omega)) (by omega) (Cd_ap sf130 (by omega)))
          have sf177 : Cd (lg2_140 = 0 ∧ lb2_141 < 19999) (gA5 T0 A138 Q k (La) F Sn nw (n) ((i).toNat) (le) (lf) (st) (ge) (st1) (lb + 2) (lb1)) := Cd_mk (fun hC => gA5_mv (Cg_fx (l0 := lb + 2) (l1 := lb1) hQ147 (Cd_ap p163 (by omega)) (by omega)) (by omega) (Cd_ap sf131 (by omega)))
          have sf178 : Cd (lg2_140 = 0 ∧ lb2_141 < 19999) (LZ A138 (La i) (st1) (lb + 2) (lb1)) := Cd_mk (fun hC => LZ_mv (Cg_fx (l0 := lb + 2) (l1 := lb1) hQ147 (Cd_ap p163 (by omega)) (by omega)) (by omega) (Cd_ap sf132 (by omega)))
          have sf179 : Cd (lg2_140 = 0 ∧ lb2_141 < 19999) (gD T0 A138 F Sn nw (20) (T0 19 (c).toNat) (st1) (st2_48) (lb1) (lb2_50)) := Cd_mk (fun hC => gD_mv (Cg_fx (l0 := lb1) (l1 := lb2_50) hQ147 (Cd_ap p163 (by omega)) (by omega)) (by omega) (Cd_ap sf133 (by omega)))
          have sf180 : Cd (lg2_140 = 0 ∧ lb2_141 < 19999) (ST A138 (st2_48) (st2_81) (7) ((T0 25 (n).toNat + (2 * i)) + 1)) := Cd_mk (fun hC => ST_mv (Cg_fx (l0 := 0) (l1 := 0) hQ147 (Cd_ap p163 (by omega)) (by omega)) (by omega) (Cd_ap sf134 (by omega)))
          have sf181 : Cd (lg2_140 = 0 ∧ lb2_141 < 19999) (ST A138 (st2_81) (st2_109) (15) (20)) := Cd_mk (fun hC => ST_mv (Cg_fx (l0 := 0) (l1 := 0) hQ147 (Cd_ap p163 (by omega)) (by omega)) (by omega) (Cd_ap p121 (by omega)))
          have hBo182 : Cd (lg2_140 = 0 ∧ lb2_141 < 19999) (Fx [50] (lb + 1) A A138) := Cd_mk (fun hC => Fx_tr (Cd_ap hBo135 (by omega)) (Cd_ap p163 (by omega)) (by omega))
          refine jx_ld (pc_q := 484) (l_q := L) (st_q := [.ref 66]) rfl (jl_aloadn gL_0) ?_
          refine jx_ar (pc_q := 485) (st_q := [.int (i32 (0)), .ref 66]) rfl rfl rfl rfl ?_
          refine jx_ld (pc_q := 486) (l_q := L) (st_q := [.int (i32 (le)), .int (i32 (0)), .ref 66]) rfl (jl_iloadn gL_2) ?_
          refine jx_ar (pc_q := 487) (st_q := [.int (i32 (0)), .int (i32 (le)), .int (i32 (0)), .ref 66]) rfl rfl rfl rfl ?_
          refine jx_vr (pc_q := 490) (as := [.int (i32 (0)), .int (i32 (le)), .int (i32 (0))]) (st := []) rfl rfl rfl rfl ⟨rfl, rfl, Nat.le_of_ble_eq_true rfl⟩ rfl rfl (c_way (dd := d) (hd := by omega) (hW := hW145) (fn := 0) (to := le) (fr := 0) (st := st2_139) (e_st := show G137 70 = st2_139 from (e150)) (lg := lg2_140) (e_lg := show G137 79 = lg2_140 from (e151))  (h_fn := ⟨(by decide), (by decide)⟩) (h_to := ⟨(Int.le_trans (by decide : (-2147483648 : Int) ≤ -2147483648) rx_le.1), (Int.le_trans rx_le.2 (by decide : (2147483647 : Int) ≤ 2147483647))⟩) (h_fr := ⟨(by decide), (by decide)⟩)  (p_0 := by omega) (p_1 := by omega)) (fun o V_q hq => ?_)
          obtain ⟨G183, A184, st2_185, lg2_186, rfl, rfl, hW187, hF188, hQ189, e190, e191, p192, p193, p194, p195, p196, p197, -⟩ := hq
          have hF199 := Fr_tr hF171 hF188 (Fr_sub (by decide)) (Fr_sub (by decide))
          have hC200 := Fx_tr hC172 hQ189 (by omega)
          have hAl201 := Fx_f hAl173 hF188 (by decide)
          have hBp202 := Fx_f hBp174 hF188 (by decide)
          have sf203 : PE 58 (La) (b4) (T0 18 (n).toNat) A184 := PE_fr (hF188.2 58 rfl) sf175
          have sf204 := FA_fr (hF188.2 51 rfl) p167
          have sf205 := SA_fr (hF188.2 13 rfl) p168
          have bst2_185 : (-2147483648 : Int) ≤ st2_185 ∧ st2_185 ≤ 2147483647 := e190 ▸ hW187.1 70
          have blg2_186 : (0 : Int) ≤ lg2_186 ∧ lg2_186 ≤ 1 := e191 ▸ hW187.1 79
          refine .inl ⟨rfl, ?_⟩
          have sf206 : Cd (lg2_186 = 0 ∧ lb2_141 < 19999) (LZ A184 (lf) (ge) (lb + 1) (lb + 2)) := Cd_mk (fun hC => LZ_mv (Cg_fx (l0 := lb + 1) (l1 := lb + 2) hQ189 (Fx_f (w := lb + 2 + 1) Fx_rf hF188 (by decide)) (by omega)) (by omega) (Cd_ap sf176 (by omega)))
          have sf207 : Cd (lg2_186 = 0 ∧ lb2_141 < 19999) (gA5 T0 A184 Q k (La) F Sn nw (n) ((i).toNat) (le) (lf) (st) (ge) (st1) (lb + 2) (lb1)) := Cd_mk (fun hC => gA5_mv (Cg_fx (l0 := lb + 2) (l1 := lb1) hQ189 (Fx_f (w := lb1 + 1) Fx_rf hF188 (by decide)) (by omega)) (by omega) (Cd_ap sf177 (by omega)))
          have sf208 : Cd (lg2_186 = 0 ∧ lb2_141 < 19999) (LZ A184 (La i) (st1) (lb + 2) (lb1)) := Cd_mk (fun hC => LZ_mv (Cg_fx (l0 := lb + 2) (l1 := lb1) hQ189 (Fx_f (w := lb1 + 1) Fx_rf hF188 (by decide)) (by omega)) (by omega) (Cd_ap sf178 (by omega)))
          have sf209 : Cd (lg2_186 = 0 ∧ lb2_141 < 19999) (gD T0 A184 F Sn nw (20) (T0 19 (c).toNat) (st1) (st2_48) (lb1) (lb2_50)) := Cd_mk (fun hC => gD_mv (Cg_fx (l0 := lb1) (l1 := lb2_50) hQ189 (Fx_f (w := lb2_50 + 1) Fx_rf hF188 (by decide)) (by omega)) (by omega) (Cd_ap sf179 (by omega)))
          have sf210 : Cd (lg2_186 = 0 ∧ lb2_141 < 19999) (ST A184 (st2_48) (st2_81) (7) ((T0 25 (n).toNat + (2 * i)) + 1)) := Cd_mk (fun hC => ST_mv (Cg_fx (l0 := 0) (l1 := 0) hQ189 (Fx_f (w := 0 + 1) Fx_rf hF188 (by decide)) (by omega)) (by omega) (Cd_ap sf180 (by omega)))
          have sf211 : Cd (lg2_186 = 0 ∧ lb2_141 < 19999) (ST A184 (st2_81) (st2_109) (15) (20)) := Cd_mk (fun hC => ST_mv (Cg_fx (l0 := 0) (l1 := 0) hQ189 (Fx_f (w := 0 + 1) Fx_rf hF188 (by decide)) (by omega)) (by omega) (Cd_ap sf181 (by omega)))
          have sf212 : Cd (lg2_186 = 0 ∧ lb2_141 < 19999) (gP T0 A184 Q (k) (F) (Sn) (nw) (T0 21 (c).toNat) (st2_109) (st2_139) (lb2_50) (lb2_141)) := Cd_mk (fun hC => gP_mv (Cg_fx (l0 := lb2_50) (l1 := lb2_141) hQ189 (Fx_f (w := lb2_141 + 1) Fx_rf hF188 (by decide)) (by omega)) (by omega) (Cd_ap p169 (by omega)))
          have hBo213 : Cd (lg2_186 = 0 ∧ lb2_141 < 19999) (Fx [50] (lb + 1) A A184) := Cd_mk (fun hC => Fx_f (Cd_ap hBo182 (by omega)) hF188 (by decide))
          refine jx_inc (pc_q := 493) (l_q := jSto1 L 5 (.int (i32 ((i + (1)))))) (x := i) rfl gL_5 (by decide) rfl rfl ?_
          obtain ⟨L214, eL214⟩ : ∃ q, q = jSto1 L 5 (.int (i32 ((i + (1))))) := ⟨_, rfl⟩
          rw [← eL214]
          have gL214_0 : jGet L214 0 = some (.ref 66) := eL214 ▸ jg_ne (by decide) gL_0 rfl
          have gL214_1 : jGet L214 1 = some (.int (i32 (n))) := eL214 ▸ jg_ne (by decide) gL_1 rfl
          have gL214_2 : jGet L214 2 = some (.int (i32 (le))) := eL214 ▸ jg_ne (by decide) gL_2 rfl
          have gL214_3 : jGet L214 3 = some (.int (i32 (lf))) := eL214 ▸ jg_ne (by decide) gL_3 rfl
          have gL214_4 : jGet L214 4 = some (.int (i32 (b4))) := eL214 ▸ jg_ne (by decide) gL_4 rfl
          have gL214_6 : jGet L214 6 = some (.int (i32 (c))) := eL214 ▸ jg_ne (by decide) gL_6 rfl
          have gL214_5 : jGet L214 5 = some (.int (i32 ((i + (1))))) := eL214 ▸ jg_eq
          refine jx_ld (pc_q := 494) (l_q := L214) (st_q := [.ref 66]) rfl (jl_aloadn gL214_0) ?_
          refine jr_get (pc_q := 497) (i := 39) (v := .ref 89) rfl rfl (by decide) rfl rfl ?_
          refine jx_ld (pc_q := 499) (l_q := L214) (st_q := [.int (i32 (c)), .ref 89]) rfl (jl_iload gL214_6) ?_
          have b215 : (-2147483648 : Int) ≤ T0 22 (c).toNat ∧ T0 22 (c).toNat ≤ 2147483647 := hWT.2 22 _
          refine jr_ldv (pc_q := 500) (i := 22) (m := 7000) (z := c) (y := T0 22 (c).toNat) rfl (by decide) rfl (by decide) (by omega) (by omega) rfl (show A184 22 (c).toNat = T0 22 (c).toNat from (congrFun ((hF188.2 22 rfl).trans ((hF146.2 22 rfl).trans ((hF112.2 22 rfl).trans ((hF84.2 22 rfl).trans ((hF52.2 22 rfl).trans ((hF28.2 22 rfl).trans ((hFx.2 22 rfl).trans (p_0 22 rfl)))))))) _)) ?_
          refine jx_ld (pc_q := 502) (l_q := jSto1 L214 6 (.int (i32 (T0 22 (c).toNat)))) (st_q := []) rfl rfl ?_
          obtain ⟨L216, eL216⟩ : ∃ q, q = jSto1 L214 6 (.int (i32 (T0 22 (c).toNat))) := ⟨_, rfl⟩
          rw [← eL216]
          have gL216_0 : jGet L216 0 = some (.ref 66) := eL216 ▸ jg_ne (by decide) gL214_0 rfl
          have gL216_1 : jGet L216 1 = some (.int (i32 (n))) := eL216 ▸ jg_ne (by decide) gL214_1 rfl
          have gL216_2 : jGet L216 2 = some (.int (i32 (le))) := eL216 ▸ jg_ne (by decide) gL214_2 rfl
          have gL216_3 : jGet L216 3 = some (.int (i32 (lf))) := eL216 ▸ jg_ne (by decide) gL214_3 rfl
          have gL216_4 : jGet L216 4 = some (.int (i32 (b4))) := eL216 ▸ jg_ne (by decide) gL214_4 rfl
          have gL216_5 : jGet L216 5 = some (.int (i32 ((i + (1))))) := eL216 ▸ jg_ne (by decide) gL214_5 rfl
          have gL216_6 : jGet L216 6 = some (.int (i32 (T0 22 (c).toNat))) := eL216 ▸ jg_eq
          refine jx_go (tg := 407) rfl rfl ?_
          exact ih407 _ (hmt) L216 G183 A184 (le) (lf) (b4) ((i + (1))) (T0 22 (c).toNat) (st2_185) (lg2_186) (lb2_141) (fw2_144) (m1) (t1) (ge) (b2) (La) rfl gL216_0 gL216_1 gL216_2 gL216_3 gL216_4 gL216_5 gL216_6 hW187 hF199 hC200 hAl201 hBp202 (Cd_mk (fun hC => Cd_ap hBo213 (by omega))) ((e190)) ((e191)) (((hF188.1 77 rfl).trans (e152))) ((congrFun (hF188.2 51 rfl) _).trans (e155)) (Eq.trans (show G183 81 = nw2_142 from ((hF188.1 81 rfl).trans (e153))) (by omega)) (Eq.trans (show G183 89 = al2_143 from ((hF188.1 89 rfl).trans (e154))) (by omega)) (by omega) (by omega) (by omega) (by omega) (by omega) (by omega) (by omega) (by omega) (by omega) (by omega) ((Cd_mk (fun hC => by have := Cd_ap iv_5 (by omega); have := Cd_ap p62 (by omega); have := Cd_ap p161 (by omega); omega))) (by omega) (by omega) (by omega) ((Cd_mk (fun hC => (by have hr := Cd_ap iv_9 (by omega); omega)))) (by omega) (by omega) ((Cd_mk (fun hC => (by have hr := Cd_ap iv_12 (by omega); omega)))) (by omega) (by omega) (by omega) (by omega) (by omega) (by omega) (by omega) (by omega) (sf204) (sf205) ((hnx _ (by omega))) (hb2) (by omega) (sf203) (iv_27) ((Cd_mk (fun hC => (LZ_su (Cd_ap sf206 (by omega)) (by omega) (by omega))))) ((Cd_mk (fun hC => (gA5_nx (by omega) (by omega) (Cd_ap sf207 (by omega)) (by omega) (Cd_ap sf208 (by omega)).2.2.2 hcx ⟨_, _, lb2_50, by omega, by omega, .inl ⟨by omega, _, (Cd_ap sf209 (by omega)), SQ_c (ST_e (Cd_ap sf210 (by omega)) rfl (by omega)) (SQ_c (Cd_ap sf211 (by omega)) SQ_n)⟩, (Cd_ap sf212 (by omega)), (Cd_ap p197 (by omega))⟩))))
      · have _q : True := trivial
        have hk17 := wE_in k2
        refine jr_get (pc_q := 430) (i := 35) (v := .ref 85) rfl rfl (by decide) rfl rfl ?_
        refine jx_ld (pc_q := 432) (l_q := L) (st_q := [.int (i32 (c)), .ref 85]) rfl (jl_iload gL_6) ?_
        have b217 : (-2147483648 : Int) ≤ T0 18 (c).toNat ∧ T0 18 (c).toNat ≤ 2147483647 := hWT.2 18 _
        refine jr_ldv (pc_q := 433) (i := 18) (m := 7000) (z := c) (y := T0 18 (c).toNat) rfl (by decide) rfl (by decide) (by omega) (by omega) rfl (show A25 18 (c).toNat = T0 18 (c).toNat from (congrFun ((hF28.2 18 rfl).trans ((hFx.2 18 rfl).trans (p_0 18 rfl))) _)) ?_
        refine jx_if_le (pc_q := 436) (tg := 472) rfl rfl rfl (Int.le_trans (by decide : (-2147483648 : Int) ≤ -2147483648) b217.1) (Int.le_trans b217.2 (by decide : (2147483647 : Int) ≤ 2147483647)) (fun h218 => ?_) (fun h218 => ?_)
        · have _q := h218
          refine jx_ld (pc_q := 473) (l_q := L) (st_q := [.ref 66]) rfl (jl_aloadn gL_0) ?_
          refine jx_ld (pc_q := 474) (l_q := L) (st_q := [.ref 66, .ref 66]) rfl (jl_aloadn gL_0) ?_
          refine jr_get (pc_q := 477) (i := 38) (v := .ref 88) rfl rfl (by decide) rfl rfl ?_
          refine jx_ld (pc_q := 479) (l_q := L) (st_q := [.int (i32 (c)), .ref 88, .ref 66]) rfl (jl_iload gL_6) ?_
          have b219 : (-2147483648 : Int) ≤ T0 21 (c).toNat ∧ T0 21 (c).toNat ≤ 2147483647 := hWT.2 21 _
          refine jr_ldv (pc_q := 480) (i := 21) (m := 7000) (z := c) (y := T0 21 (c).toNat) rfl (by decide) rfl (by decide) (by omega) (by omega) rfl (show A25 21 (c).toNat = T0 21 (c).toNat from (congrFun ((hF28.2 21 rfl).trans ((hFx.2 21 rfl).trans (p_0 21 rfl))) _)) ?_
          refine jx_vr (pc_q := 483) (as := [.int (i32 (T0 21 (c).toNat))]) (st := []) rfl rfl rfl rfl ⟨rfl, rfl, Nat.le_of_ble_eq_true rfl⟩ rfl rfl (hN (dd := d) (hd := by omega) (hW := hW27) (p := T0 21 (c).toNat) (lo := x) (hi := m1) (s0 := gt) (s1 := t1) (fr := fr) (z := z) (D := D) (bd := b1) (st := st1) (e_st := show G24 70 = st1 from ((hF28.1 70 rfl).trans (ex_st1))) (lg := lg1) (e_lg := show G24 79 = lg1 from ((hF28.1 79 rfl).trans (ex_lg1))) (lb := lb1) (e_lb := show G24 77 = lb1 from ((hF28.1 77 rfl).trans (ex_lb1))) (nw := nw) (e_nw := show G24 81 = nw from ((hF28.1 81 rfl).trans (fx_81))) (al := (al + 1)) (e_al := show G24 89 = (al + 1) from ((hF28.1 89 rfl).trans (fx_89))) (fw := fw1) (e_fw := show A25 51 (nw).toNat = fw1 from (congrFun (hF28.2 51 rfl) _).trans (ex_fw1))  (h_p := ⟨(Int.le_trans (by decide : (-2147483648 : Int) ≤ -2147483648) b219.1), (Int.le_trans b219.2 (by decide : (2147483647 : Int) ≤ 2147483647))⟩)  (p_0 := (TA_fr hF32 (by decide) p_0)) (p_1 := sf37) (p_2 := sf38) (p_3 := p_3) (p_4 := by omega) (p_5 := by omega) (p_6 := by omega) (p_7 := by omega) (p_8 := by omega) (p_9 := by omega) (p_10 := by omega) (p_11 := by omega) (p_12 := by omega) (p_13 := by omega) (p_14 := by omega) (p_15 := by omega) (p_16 := by omega) (p_17 := i5) (p_18 := (VB_mo p_22 (by omega))) (p_19 := hly) (p_20 := hb1) (p_21 := by omega) (p_22 := by omega) (p_23 := by omega) (p_24 := by omega) (p_25 := by omega) (p_26 := by omega) (p_27 := by omega) (p_28 := p_34) (p_29 := (PA_fr (hF32.2 52 rfl) p_35))) (fun o V_q hq => ?_)
          obtain ⟨G220, A221, st2_222, lg2_223, lb2_224, nw2_225, al2_226, fw2_227, rfl, rfl, hW228, hF229, hQ230, hQ231, hQ232, e233, e234, e235, e236, e237, e238, p239, p240, p241, p242, p243, p244, p245, p246, p247, p248, p249, p250, p251, p252, -⟩ := hq
          have hF254 := Fr_tr hF32 hF229 (Fr_sub (by decide)) (Fr_sub (by decide))
          have hC255 := Fx_tr hC33 hQ230 (by omega)
          have hAl256 := Fx_tr hAl34 hQ231 (by omega)
          have hBp257 := Fx_tr hBp35 hQ232 (by omega)
          have sf258 : PE 58 (La) (b4) (T0 18 (n).toNat) A221 := PE_fx hQ231 rfl (by omega) (by omega) sf39
          have bst2_222 : (-2147483648 : Int) ≤ st2_222 ∧ st2_222 ≤ 2147483647 := e233 ▸ hW228.1 70
          have blg2_223 : (0 : Int) ≤ lg2_223 ∧ lg2_223 ≤ 1 := e234 ▸ hW228.1 79
          have blb2_224 : (-2147483648 : Int) ≤ lb2_224 ∧ lb2_224 ≤ 2147483647 := e235 ▸ hW228.1 77
          have bnw2_225 : (-2147483648 : Int) ≤ nw2_225 ∧ nw2_225 ≤ 2147483647 := e236 ▸ hW228.1 81
          have bal2_226 : (-2147483648 : Int) ≤ al2_226 ∧ al2_226 ≤ 2147483647 := e237 ▸ hW228.1 89
          have bfw2_227 : (-2147483648 : Int) ≤ fw2_227 ∧ fw2_227 ≤ 2147483647 := e238 ▸ hW228.2 51 _
          refine .inl ⟨rfl, ?_⟩
          have sf259 : Cd (lg2_223 = 0 ∧ lb2_224 < 19999) (LZ A221 (lf) (ge) (lb + 1) (lb + 2)) := Cd_mk (fun hC => LZ_mv (Cg_fx (l0 := lb + 1) (l1 := lb + 2) hQ230 (Cd_ap p246 (by omega)) (by omega)) (by omega) (Cd_ap sf40 (by omega)))
          have sf260 : Cd (lg2_223 = 0 ∧ lb2_224 < 19999) (gA5 T0 A221 Q k (La) F Sn nw (n) ((i).toNat) (le) (lf) (st) (ge) (st1) (lb + 2) (lb1)) := Cd_mk (fun hC => gA5_mv (Cg_fx (l0 := lb + 2) (l1 := lb1) hQ230 (Cd_ap p246 (by omega)) (by omega)) (by omega) (Cd_ap sf41 (by omega)))
          have sf261 : Cd (lg2_223 = 0 ∧ lb2_224 < 19999) (LZ A221 (La i) (st1) (lb + 2) (lb1)) := Cd_mk (fun hC => LZ_mv (Cg_fx (l0 := lb + 2) (l1 := lb1) hQ230 (Cd_ap p246 (by omega)) (by omega)) (by omega) (Cd_ap hlsi (by omega)))
          have hBo262 : Cd (lg2_223 = 0 ∧ lb2_224 < 19999) (Fx [50] (lb + 1) A A221) := Cd_mk (fun hC => Fx_tr (Cd_ap hBo42 (by omega)) (Cd_ap p246 (by omega)) (by omega))
          refine jx_ld (pc_q := 484) (l_q := L) (st_q := [.ref 66]) rfl (jl_aloadn gL_0) ?_
          refine jx_ar (pc_q := 485) (st_q := [.int (i32 (0)), .ref 66]) rfl rfl rfl rfl ?_
          refine jx_ld (pc_q := 486) (l_q := L) (st_q := [.int (i32 (le)), .int (i32 (0)), .ref 66]) rfl (jl_iloadn gL_2) ?_
          refine jx_ar (pc_q := 487) (st_q := [.int (i32 (0)), .int (i32 (le)), .int (i32 (0)), .ref 66]) rfl rfl rfl rfl ?_
          refine jx_vr (pc_q := 490) (as := [.int (i32 (0)), .int (i32 (le)), .int (i32 (0))]) (st := []) rfl rfl rfl rfl ⟨rfl, rfl, Nat.le_of_ble_eq_true rfl⟩ rfl rfl (c_way (dd := d) (hd := by omega) (hW := hW228) (fn := 0) (to := le) (fr := 0) (st := st2_222) (e_st := show G220 70 = st2_222 from (e233)) (lg := lg2_223) (e_lg := show G220 79 = lg2_223 from (e234))  (h_fn := ⟨(by decide), (by decide)⟩) (h_to := ⟨(Int.le_trans (by decide : (-2147483648 : Int) ≤ -2147483648) rx_le.1), (Int.le_trans rx_le.2 (by decide : (2147483647 : Int) ≤ 2147483647))⟩) (h_fr := ⟨(by decide), (by decide)⟩)  (p_0 := by omega) (p_1 := by omega)) (fun o V_q hq => ?_)
          obtain ⟨G263, A264, st2_265, lg2_266, rfl, rfl, hW267, hF268, hQ269, e270, e271, p272, p273, p274, p275, p276, p277, -⟩ := hq
          have hF279 := Fr_tr hF254 hF268 (Fr_sub (by decide)) (Fr_sub (by decide))
          have hC280 := Fx_tr hC255 hQ269 (by omega)
          have hAl281 := Fx_f hAl256 hF268 (by decide)
          have hBp282 := Fx_f hBp257 hF268 (by decide)
          have sf283 : PE 58 (La) (b4) (T0 18 (n).toNat) A264 := PE_fr (hF268.2 58 rfl) sf258
          have sf284 := FA_fr (hF268.2 51 rfl) p250
          have sf285 := SA_fr (hF268.2 13 rfl) p251
          have bst2_265 : (-2147483648 : Int) ≤ st2_265 ∧ st2_265 ≤ 2147483647 := e270 ▸ hW267.1 70
          have blg2_266 : (0 : Int) ≤ lg2_266 ∧ lg2_266 ≤ 1 := e271 ▸ hW267.1 79
          refine .inl ⟨rfl, ?_⟩
          have sf286 : Cd (lg2_266 = 0 ∧ lb2_224 < 19999) (LZ A264 (lf) (ge) (lb + 1) (lb + 2)) := Cd_mk (fun hC => LZ_mv (Cg_fx (l0 := lb + 1) (l1 := lb + 2) hQ269 (Fx_f (w := lb + 2 + 1) Fx_rf hF268 (by decide)) (by omega)) (by omega) (Cd_ap sf259 (by omega)))
          have sf287 : Cd (lg2_266 = 0 ∧ lb2_224 < 19999) (gA5 T0 A264 Q k (La) F Sn nw (n) ((i).toNat) (le) (lf) (st) (ge) (st1) (lb + 2) (lb1)) := Cd_mk (fun hC => gA5_mv (Cg_fx (l0 := lb + 2) (l1 := lb1) hQ269 (Fx_f (w := lb1 + 1) Fx_rf hF268 (by decide)) (by omega)) (by omega) (Cd_ap sf260 (by omega)))
          have sf288 : Cd (lg2_266 = 0 ∧ lb2_224 < 19999) (LZ A264 (La i) (st1) (lb + 2) (lb1)) := Cd_mk (fun hC => LZ_mv (Cg_fx (l0 := lb + 2) (l1 := lb1) hQ269 (Fx_f (w := lb1 + 1) Fx_rf hF268 (by decide)) (by omega)) (by omega) (Cd_ap sf261 (by omega)))
          have sf289 : Cd (lg2_266 = 0 ∧ lb2_224 < 19999) (gP T0 A264 Q (k) (F) (Sn) (nw) (T0 21 (c).toNat) (st1) (st2_222) (lb1) (lb2_224)) := Cd_mk (fun hC => gP_mv (Cg_fx (l0 := lb1) (l1 := lb2_224) hQ269 (Fx_f (w := lb2_224 + 1) Fx_rf hF268 (by decide)) (by omega)) (by omega) (Cd_ap p252 (by omega)))
          have hBo290 : Cd (lg2_266 = 0 ∧ lb2_224 < 19999) (Fx [50] (lb + 1) A A264) := Cd_mk (fun hC => Fx_f (Cd_ap hBo262 (by omega)) hF268 (by decide))
          refine jx_inc (pc_q := 493) (l_q := jSto1 L 5 (.int (i32 ((i + (1)))))) (x := i) rfl gL_5 (by decide) rfl rfl ?_
          obtain ⟨L291, eL291⟩ : ∃ q, q = jSto1 L 5 (.int (i32 ((i + (1))))) := ⟨_, rfl⟩
          rw [← eL291]
          have gL291_0 : jGet L291 0 = some (.ref 66) := eL291 ▸ jg_ne (by decide) gL_0 rfl
          have gL291_1 : jGet L291 1 = some (.int (i32 (n))) := eL291 ▸ jg_ne (by decide) gL_1 rfl
          have gL291_2 : jGet L291 2 = some (.int (i32 (le))) := eL291 ▸ jg_ne (by decide) gL_2 rfl
          have gL291_3 : jGet L291 3 = some (.int (i32 (lf))) := eL291 ▸ jg_ne (by decide) gL_3 rfl
          have gL291_4 : jGet L291 4 = some (.int (i32 (b4))) := eL291 ▸ jg_ne (by decide) gL_4 rfl
          have gL291_6 : jGet L291 6 = some (.int (i32 (c))) := eL291 ▸ jg_ne (by decide) gL_6 rfl
          have gL291_5 : jGet L291 5 = some (.int (i32 ((i + (1))))) := eL291 ▸ jg_eq
          refine jx_ld (pc_q := 494) (l_q := L291) (st_q := [.ref 66]) rfl (jl_aloadn gL291_0) ?_
          refine jr_get (pc_q := 497) (i := 39) (v := .ref 89) rfl rfl (by decide) rfl rfl ?_
          refine jx_ld (pc_q := 499) (l_q := L291) (st_q := [.int (i32 (c)), .ref 89]) rfl (jl_iload gL291_6) ?_
          have b292 : (-2147483648 : Int) ≤ T0 22 (c).toNat ∧ T0 22 (c).toNat ≤ 2147483647 := hWT.2 22 _
          refine jr_ldv (pc_q := 500) (i := 22) (m := 7000) (z := c) (y := T0 22 (c).toNat) rfl (by decide) rfl (by decide) (by omega) (by omega) rfl (show A264 22 (c).toNat = T0 22 (c).toNat from (congrFun ((hF268.2 22 rfl).trans ((hF229.2 22 rfl).trans ((hF28.2 22 rfl).trans ((hFx.2 22 rfl).trans (p_0 22 rfl))))) _)) ?_
          refine jx_ld (pc_q := 502) (l_q := jSto1 L291 6 (.int (i32 (T0 22 (c).toNat)))) (st_q := []) rfl rfl ?_
          obtain ⟨L293, eL293⟩ : ∃ q, q = jSto1 L291 6 (.int (i32 (T0 22 (c).toNat))) := ⟨_, rfl⟩
          rw [← eL293]
          have gL293_0 : jGet L293 0 = some (.ref 66) := eL293 ▸ jg_ne (by decide) gL291_0 rfl
          have gL293_1 : jGet L293 1 = some (.int (i32 (n))) := eL293 ▸ jg_ne (by decide) gL291_1 rfl
          have gL293_2 : jGet L293 2 = some (.int (i32 (le))) := eL293 ▸ jg_ne (by decide) gL291_2 rfl
          have gL293_3 : jGet L293 3 = some (.int (i32 (lf))) := eL293 ▸ jg_ne (by decide) gL291_3 rfl
          have gL293_4 : jGet L293 4 = some (.int (i32 (b4))) := eL293 ▸ jg_ne (by decide) gL291_4 rfl
          have gL293_5 : jGet L293 5 = some (.int (i32 ((i + (1))))) := eL293 ▸ jg_ne (by decide) gL291_5 rfl
          have gL293_6 : jGet L293 6 = some (.int (i32 (T0 22 (c).toNat))) := eL293 ▸ jg_eq
          refine jx_go (tg := 407) rfl rfl ?_
          exact ih407 _ (hmt) L293 G263 A264 (le) (lf) (b4) ((i + (1))) (T0 22 (c).toNat) (st2_265) (lg2_266) (lb2_224) (fw2_227) (m1) (t1) (ge) (b2) (La) rfl gL293_0 gL293_1 gL293_2 gL293_3 gL293_4 gL293_5 gL293_6 hW267 hF279 hC280 hAl281 hBp282 (Cd_mk (fun hC => Cd_ap hBo290 (by omega))) ((e270)) ((e271)) (((hF268.1 77 rfl).trans (e235))) ((congrFun (hF268.2 51 rfl) _).trans (e238)) (Eq.trans (show G263 81 = nw2_225 from ((hF268.1 81 rfl).trans (e236))) (by omega)) (Eq.trans (show G263 89 = al2_226 from ((hF268.1 89 rfl).trans (e237))) (by omega)) (by omega) (by omega) (by omega) (by omega) (by omega) (by omega) (by omega) (by omega) (by omega) (by omega) ((Cd_mk (fun hC => by have := Cd_ap iv_5 (by omega); have := Cd_ap p244 (by omega); omega))) (by omega) (by omega) (by omega) ((Cd_mk (fun hC => (by have hr := Cd_ap iv_9 (by omega); omega)))) (by omega) (by omega) ((Cd_mk (fun hC => (by have hr := Cd_ap iv_12 (by omega); omega)))) (by omega) (by omega) (by omega) (by omega) (by omega) (by omega) (by omega) (by omega) (sf284) (sf285) ((hnx _ (by omega))) (hb2) (by omega) (sf283) (iv_27) ((Cd_mk (fun hC => (LZ_su (Cd_ap sf286 (by omega)) (by omega) (by omega))))) ((Cd_mk (fun hC => (gA5_nx (by omega) (by omega) (Cd_ap sf287 (by omega)) (by omega) (Cd_ap sf288 (by omega)).2.2.2 hcx ⟨_, _, lb1, by omega, by omega, .inr ⟨by omega, rfl⟩, (Cd_ap sf289 (by omega)), (Cd_ap p277 (by omega))⟩))))
        · have _q := h218
          exfalso
          omega
      · have _q : True := trivial
        have hk17 := wE_in k4; have hk18 := wR_kd k5
        refine jr_get (pc_q := 430) (i := 35) (v := .ref 85) rfl rfl (by decide) rfl rfl ?_
        refine jx_ld (pc_q := 432) (l_q := L) (st_q := [.int (i32 (c)), .ref 85]) rfl (jl_iload gL_6) ?_
        have b294 : (-2147483648 : Int) ≤ T0 18 (c).toNat ∧ T0 18 (c).toNat ≤ 2147483647 := hWT.2 18 _
        refine jr_ldv (pc_q := 433) (i := 18) (m := 7000) (z := c) (y := T0 18 (c).toNat) rfl (by decide) rfl (by decide) (by omega) (by omega) rfl (show A25 18 (c).toNat = T0 18 (c).toNat from (congrFun ((hF28.2 18 rfl).trans ((hFx.2 18 rfl).trans (p_0 18 rfl))) _)) ?_
        refine jx_if_le (pc_q := 436) (tg := 472) rfl rfl rfl (Int.le_trans (by decide : (-2147483648 : Int) ≤ -2147483648) b294.1) (Int.le_trans b294.2 (by decide : (2147483647 : Int) ≤ 2147483647)) (fun h295 => ?_) (fun h295 => ?_)
        · have _q := h295
          exfalso
          omega
        · have _q := h295
          have _q : True := trivial
          refine jx_ld (pc_q := 437) (l_q := L) (st_q := [.ref 66]) rfl (jl_aloadn gL_0) ?_
          refine jx_ld (pc_q := 438) (l_q := L) (st_q := [.ref 66, .ref 66]) rfl (jl_aloadn gL_0) ?_
          refine jr_get (pc_q := 441) (i := 36) (v := .ref 86) rfl rfl (by decide) rfl rfl ?_
          refine jx_ld (pc_q := 443) (l_q := L) (st_q := [.int (i32 (c)), .ref 86, .ref 66]) rfl (jl_iload gL_6) ?_
          have b296 : (-2147483648 : Int) ≤ T0 19 (c).toNat ∧ T0 19 (c).toNat ≤ 2147483647 := hWT.2 19 _
          refine jr_ldv (pc_q := 444) (i := 19) (m := 7000) (z := c) (y := T0 19 (c).toNat) rfl (by decide) rfl (by decide) (by omega) (by omega) rfl (show A25 19 (c).toNat = T0 19 (c).toNat from (congrFun ((hF28.2 19 rfl).trans ((hFx.2 19 rfl).trans (p_0 19 rfl))) _)) ?_
          refine jx_vr (pc_q := 447) (as := [.int (i32 (T0 19 (c).toNat))]) (st := []) rfl rfl rfl rfl ⟨rfl, rfl, Nat.le_of_ble_eq_true rfl⟩ rfl rfl (c_genAddress (dd := d) (k := 20) (hG := GE_all X 20) (hd := by omega) (hW := hW27) (x := T0 19 (c).toNat) (lo := b) (hi := x) (st := st1) (e_st := show G24 70 = st1 from ((hF28.1 70 rfl).trans (ex_st1))) (lg := lg1) (e_lg := show G24 79 = lg1 from ((hF28.1 79 rfl).trans (ex_lg1))) (lb := lb1) (e_lb := show G24 77 = lb1 from ((hF28.1 77 rfl).trans (ex_lb1))) (nw := nw) (e_nw := show G24 81 = nw from ((hF28.1 81 rfl).trans (fx_81)))  (h_x := ⟨(Int.le_trans (by decide : (-2147483648 : Int) ≤ -2147483648) b296.1), (Int.le_trans b296.2 (by decide : (2147483647 : Int) ≤ 2147483647))⟩)  (p_0 := (TA_fr hF32 (by decide) p_0)) (p_1 := sf37) (p_2 := sf38) (p_3 := p_3) (p_4 := by omega) (p_5 := by omega) (p_6 := by omega) (p_7 := by omega) (p_8 := by omega) (p_9 := by omega) (p_10 := by omega) (p_11 := by omega) (p_12 := by omega) (p_13 := (pX_wR k6)) (p_14 := by omega)) (fun o V_q hq => ?_)
          obtain ⟨G297, A298, st2_299, lg2_300, lb2_301, rfl, rfl, hW302, hF303, hQ304, e305, e306, e307, p308, p309, p310, p311, p312, p313, p314, p315, p316, -⟩ := hq
          have hF318 := Fr_tr hF32 hF303 (Fr_sub (by decide)) (Fr_sub (by decide))
          have hC319 := Fx_tr hC33 hQ304 (by omega)
          have hAl320 := Fx_f hAl34 hF303 (by decide)
          have hBp321 := Fx_f hBp35 hF303 (by decide)
          have sf322 := FA_fr (hF303.2 51 rfl) sf37
          have sf323 := SA_fr (hF303.2 13 rfl) sf38
          have sf324 : PE 58 (La) (b4) (T0 18 (n).toNat) A298 := PE_fr (hF303.2 58 rfl) sf39
          have bst2_299 : (-2147483648 : Int) ≤ st2_299 ∧ st2_299 ≤ 2147483647 := e305 ▸ hW302.1 70
          have blg2_300 : (0 : Int) ≤ lg2_300 ∧ lg2_300 ≤ 1 := e306 ▸ hW302.1 79
          have blb2_301 : (-2147483648 : Int) ≤ lb2_301 ∧ lb2_301 ≤ 2147483647 := e307 ▸ hW302.1 77
          refine .inl ⟨rfl, ?_⟩
          have sf325 : Cd (lg2_300 = 0 ∧ lb2_301 < 19999) (LZ A298 (lf) (ge) (lb + 1) (lb + 2)) := Cd_mk (fun hC => LZ_mv (Cg_fx (l0 := lb + 1) (l1 := lb + 2) hQ304 (Cd_ap p315 (by omega)) (by omega)) (by omega) (Cd_ap sf40 (by omega)))
          have sf326 : Cd (lg2_300 = 0 ∧ lb2_301 < 19999) (gA5 T0 A298 Q k (La) F Sn nw (n) ((i).toNat) (le) (lf) (st) (ge) (st1) (lb + 2) (lb1)) := Cd_mk (fun hC => gA5_mv (Cg_fx (l0 := lb + 2) (l1 := lb1) hQ304 (Cd_ap p315 (by omega)) (by omega)) (by omega) (Cd_ap sf41 (by omega)))
          have sf327 : Cd (lg2_300 = 0 ∧ lb2_301 < 19999) (LZ A298 (La i) (st1) (lb + 2) (lb1)) := Cd_mk (fun hC => LZ_mv (Cg_fx (l0 := lb + 2) (l1 := lb1) hQ304 (Cd_ap p315 (by omega)) (by omega)) (by omega) (Cd_ap hlsi (by omega)))
          have hBo328 : Cd (lg2_300 = 0 ∧ lb2_301 < 19999) (Fx [50] (lb + 1) A A298) := Cd_mk (fun hC => Fx_tr (Cd_ap hBo42 (by omega)) (Cd_ap p315 (by omega)) (by omega))
          refine jx_ld (pc_q := 448) (l_q := L) (st_q := [.ref 66]) rfl (jl_aloadn gL_0) ?_
          refine jx_ar (pc_q := 450) (st_q := [.int (i32 (7)), .ref 66]) rfl rfl rfl rfl ?_
          refine jx_ld (pc_q := 451) (l_q := L) (st_q := [.ref 66, .int (i32 (7)), .ref 66]) rfl (jl_aloadn gL_0) ?_
          refine jr_get (pc_q := 454) (i := 42) (v := .ref 92) rfl rfl (by decide) rfl rfl ?_
          refine jx_ld (pc_q := 455) (l_q := L) (st_q := [.int (i32 (n)), .ref 92, .int (i32 (7)), .ref 66]) rfl (jl_iloadn gL_1) ?_
          have b329 : (-2147483648 : Int) ≤ T0 25 (n).toNat ∧ T0 25 (n).toNat ≤ 2147483647 := hWT.2 25 _
          refine jr_ldv (pc_q := 456) (i := 25) (m := 7000) (z := n) (y := T0 25 (n).toNat) rfl (by decide) rfl (by decide) (by omega) (by omega) rfl (show A298 25 (n).toNat = T0 25 (n).toNat from (congrFun ((hF303.2 25 rfl).trans ((hF28.2 25 rfl).trans ((hFx.2 25 rfl).trans (p_0 25 rfl)))) _)) ?_
          refine jx_ar (pc_q := 457) (st_q := [.int (i32 (2)), .int (i32 (T0 25 (n).toNat)), .int (i32 (7)), .ref 66]) rfl rfl rfl rfl ?_
          refine jx_ld (pc_q := 459) (l_q := L) (st_q := [.int (i32 (i)), .int (i32 (2)), .int (i32 (T0 25 (n).toNat)), .int (i32 (7)), .ref 66]) rfl (jl_iload gL_5) ?_
          refine jx_mul (pc_q := 460) rfl rfl ?_
          refine jx_add (pc_q := 461) rfl rfl ?_
          refine jx_ar (pc_q := 462) (st_q := [.int (i32 (1)), .int (i32 ((T0 25 (n).toNat + (2 * i)))), .int (i32 (7)), .ref 66]) rfl rfl rfl rfl ?_
          refine jx_add (pc_q := 463) rfl rfl ?_
          refine jx_vr (pc_q := 466) (as := [.int (i32 (7)), .int (i32 (((T0 25 (n).toNat + (2 * i)) + 1)))]) (st := []) rfl rfl rfl rfl ⟨rfl, rfl, Nat.le_of_ble_eq_true rfl⟩ rfl rfl (c_emit (dd := d) (hd := by omega) (hW := hW302) (fn := 7) (v := ((T0 25 (n).toNat + (2 * i)) + 1)) (st := st2_299) (e_st := show G297 70 = st2_299 from (e305)) (lg := lg2_300) (e_lg := show G297 79 = lg2_300 from (e306))  (h_fn := ⟨(by decide), (by decide)⟩) (h_v := ⟨(by omega), (by omega)⟩)  (p_0 := by omega) (p_1 := by omega)) (fun o V_q hq => ?_)
          obtain ⟨G330, A331, st2_332, lg2_333, rfl, rfl, hW334, hF335, hQ336, e337, e338, p339, p340, p341, p342, p343, p344, -⟩ := hq
          have hF346 := Fr_tr hF318 hF335 (Fr_sub (by decide)) (Fr_sub (by decide))
          have hC347 := Fx_tr hC319 hQ336 (by omega)
          have hAl348 := Fx_f hAl320 hF335 (by decide)
          have hBp349 := Fx_f hBp321 hF335 (by decide)
          have sf350 := FA_fr (hF335.2 51 rfl) sf322
          have sf351 := SA_fr (hF335.2 13 rfl) sf323
          have sf352 : PE 58 (La) (b4) (T0 18 (n).toNat) A331 := PE_fr (hF335.2 58 rfl) sf324
          have bst2_332 : (-2147483648 : Int) ≤ st2_332 ∧ st2_332 ≤ 2147483647 := e337 ▸ hW334.1 70
          have blg2_333 : (0 : Int) ≤ lg2_333 ∧ lg2_333 ≤ 1 := e338 ▸ hW334.1 79
          refine .inl ⟨rfl, ?_⟩
          have sf353 : Cd (lg2_333 = 0 ∧ lb2_301 < 19999) (LZ A331 (lf) (ge) (lb + 1) (lb + 2)) := Cd_mk (fun hC => LZ_mv (Cg_fx (l0 := lb + 1) (l1 := lb + 2) hQ336 (Fx_f (w := lb + 2 + 1) Fx_rf hF335 (by decide)) (by omega)) (by omega) (Cd_ap sf325 (by omega)))
          have sf354 : Cd (lg2_333 = 0 ∧ lb2_301 < 19999) (gA5 T0 A331 Q k (La) F Sn nw (n) ((i).toNat) (le) (lf) (st) (ge) (st1) (lb + 2) (lb1)) := Cd_mk (fun hC => gA5_mv (Cg_fx (l0 := lb + 2) (l1 := lb1) hQ336 (Fx_f (w := lb1 + 1) Fx_rf hF335 (by decide)) (by omega)) (by omega) (Cd_ap sf326 (by omega)))
          have sf355 : Cd (lg2_333 = 0 ∧ lb2_301 < 19999) (LZ A331 (La i) (st1) (lb + 2) (lb1)) := Cd_mk (fun hC => LZ_mv (Cg_fx (l0 := lb + 2) (l1 := lb1) hQ336 (Fx_f (w := lb1 + 1) Fx_rf hF335 (by decide)) (by omega)) (by omega) (Cd_ap sf327 (by omega)))
          have sf356 : Cd (lg2_333 = 0 ∧ lb2_301 < 19999) (gD T0 A331 F Sn nw (20) (T0 19 (c).toNat) (st1) (st2_299) (lb1) (lb2_301)) := Cd_mk (fun hC => gD_mv (Cg_fx (l0 := lb1) (l1 := lb2_301) hQ336 (Fx_f (w := lb2_301 + 1) Fx_rf hF335 (by decide)) (by omega)) (by omega) (Cd_ap p316 (by omega)))
          have hBo357 : Cd (lg2_333 = 0 ∧ lb2_301 < 19999) (Fx [50] (lb + 1) A A331) := Cd_mk (fun hC => Fx_f (Cd_ap hBo328 (by omega)) hF335 (by decide))
          refine jx_ld (pc_q := 467) (l_q := L) (st_q := [.ref 66]) rfl (jl_aloadn gL_0) ?_
          refine jx_ar (pc_q := 469) (st_q := [.int (i32 (20)), .ref 66]) rfl rfl rfl rfl ?_
          refine jx_vr (pc_q := 472) (as := [.int (i32 (20))]) (st := []) rfl rfl rfl rfl ⟨rfl, rfl, Nat.le_of_ble_eq_true rfl⟩ rfl rfl (c_op (dd := d) (hd := by omega) (hW := hW334) (oo := 20) (st := st2_332) (e_st := show G330 70 = st2_332 from (e337)) (lg := lg2_333) (e_lg := show G330 79 = lg2_333 from (e338))  (h_oo := ⟨(by decide), (by decide)⟩)  (p_0 := by omega) (p_1 := by omega)) (fun o V_q hq => ?_)
          obtain ⟨G358, A359, st2_360, lg2_361, rfl, rfl, hW362, hF363, hQ364, e365, e366, p367, p368, p369, p370, p371, p372, -⟩ := hq
          have hF374 := Fr_tr hF346 hF363 (Fr_sub (by decide)) (Fr_sub (by decide))
          have hC375 := Fx_tr hC347 hQ364 (by omega)
          have hAl376 := Fx_f hAl348 hF363 (by decide)
          have hBp377 := Fx_f hBp349 hF363 (by decide)
          have sf378 := FA_fr (hF363.2 51 rfl) sf350
          have sf379 := SA_fr (hF363.2 13 rfl) sf351
          have sf380 : PE 58 (La) (b4) (T0 18 (n).toNat) A359 := PE_fr (hF363.2 58 rfl) sf352
          have bst2_360 : (-2147483648 : Int) ≤ st2_360 ∧ st2_360 ≤ 2147483647 := e365 ▸ hW362.1 70
          have blg2_361 : (0 : Int) ≤ lg2_361 ∧ lg2_361 ≤ 1 := e366 ▸ hW362.1 79
          refine .inl ⟨rfl, ?_⟩
          have sf381 : Cd (lg2_361 = 0 ∧ lb2_301 < 19999) (LZ A359 (lf) (ge) (lb + 1) (lb + 2)) := Cd_mk (fun hC => LZ_mv (Cg_fx (l0 := lb + 1) (l1 := lb + 2) hQ364 (Fx_f (w := lb + 2 + 1) Fx_rf hF363 (by decide)) (by omega)) (by omega) (Cd_ap sf353 (by omega)))
          have sf382 : Cd (lg2_361 = 0 ∧ lb2_301 < 19999) (gA5 T0 A359 Q k (La) F Sn nw (n) ((i).toNat) (le) (lf) (st) (ge) (st1) (lb + 2) (lb1)) := Cd_mk (fun hC => gA5_mv (Cg_fx (l0 := lb + 2) (l1 := lb1) hQ364 (Fx_f (w := lb1 + 1) Fx_rf hF363 (by decide)) (by omega)) (by omega) (Cd_ap sf354 (by omega)))
          have sf383 : Cd (lg2_361 = 0 ∧ lb2_301 < 19999) (LZ A359 (La i) (st1) (lb + 2) (lb1)) := Cd_mk (fun hC => LZ_mv (Cg_fx (l0 := lb + 2) (l1 := lb1) hQ364 (Fx_f (w := lb1 + 1) Fx_rf hF363 (by decide)) (by omega)) (by omega) (Cd_ap sf355 (by omega)))
          have sf384 : Cd (lg2_361 = 0 ∧ lb2_301 < 19999) (gD T0 A359 F Sn nw (20) (T0 19 (c).toNat) (st1) (st2_299) (lb1) (lb2_301)) := Cd_mk (fun hC => gD_mv (Cg_fx (l0 := lb1) (l1 := lb2_301) hQ364 (Fx_f (w := lb2_301 + 1) Fx_rf hF363 (by decide)) (by omega)) (by omega) (Cd_ap sf356 (by omega)))
          have sf385 : Cd (lg2_361 = 0 ∧ lb2_301 < 19999) (ST A359 (st2_299) (st2_332) (7) ((T0 25 (n).toNat + (2 * i)) + 1)) := Cd_mk (fun hC => ST_mv (Cg_fx (l0 := 0) (l1 := 0) hQ364 (Fx_f (w := 0 + 1) Fx_rf hF363 (by decide)) (by omega)) (by omega) (Cd_ap p344 (by omega)))
          have hBo386 : Cd (lg2_361 = 0 ∧ lb2_301 < 19999) (Fx [50] (lb + 1) A A359) := Cd_mk (fun hC => Fx_f (Cd_ap hBo357 (by omega)) hF363 (by decide))
          refine jx_ld (pc_q := 473) (l_q := L) (st_q := [.ref 66]) rfl (jl_aloadn gL_0) ?_
          refine jx_ld (pc_q := 474) (l_q := L) (st_q := [.ref 66, .ref 66]) rfl (jl_aloadn gL_0) ?_
          refine jr_get (pc_q := 477) (i := 38) (v := .ref 88) rfl rfl (by decide) rfl rfl ?_
          refine jx_ld (pc_q := 479) (l_q := L) (st_q := [.int (i32 (c)), .ref 88, .ref 66]) rfl (jl_iload gL_6) ?_
          have b387 : (-2147483648 : Int) ≤ T0 21 (c).toNat ∧ T0 21 (c).toNat ≤ 2147483647 := hWT.2 21 _
          refine jr_ldv (pc_q := 480) (i := 21) (m := 7000) (z := c) (y := T0 21 (c).toNat) rfl (by decide) rfl (by decide) (by omega) (by omega) rfl (show A359 21 (c).toNat = T0 21 (c).toNat from (congrFun ((hF363.2 21 rfl).trans ((hF335.2 21 rfl).trans ((hF303.2 21 rfl).trans ((hF28.2 21 rfl).trans ((hFx.2 21 rfl).trans (p_0 21 rfl)))))) _)) ?_
          refine jx_vr (pc_q := 483) (as := [.int (i32 (T0 21 (c).toNat))]) (st := []) rfl rfl rfl rfl ⟨rfl, rfl, Nat.le_of_ble_eq_true rfl⟩ rfl rfl (hN (dd := d) (hd := by omega) (hW := hW362) (p := T0 21 (c).toNat) (lo := x) (hi := m1) (s0 := gt) (s1 := t1) (fr := fr) (z := z) (D := D) (bd := b1) (st := st2_360) (e_st := show G358 70 = st2_360 from (e365)) (lg := lg2_361) (e_lg := show G358 79 = lg2_361 from (e366)) (lb := lb2_301) (e_lb := show G358 77 = lb2_301 from ((hF363.1 77 rfl).trans ((hF335.1 77 rfl).trans (e307)))) (nw := nw) (e_nw := show G358 81 = nw from ((hF363.1 81 rfl).trans ((hF335.1 81 rfl).trans ((hF303.1 81 rfl).trans ((hF28.1 81 rfl).trans (fx_81)))))) (al := (al + 1)) (e_al := show G358 89 = (al + 1) from ((hF363.1 89 rfl).trans ((hF335.1 89 rfl).trans ((hF303.1 89 rfl).trans ((hF28.1 89 rfl).trans (fx_89)))))) (fw := fw1) (e_fw := show A359 51 (nw).toNat = fw1 from (congrFun ((hF363.2 51 rfl).trans ((hF335.2 51 rfl).trans ((hF303.2 51 rfl).trans (hF28.2 51 rfl)))) _).trans (ex_fw1))  (h_p := ⟨(Int.le_trans (by decide : (-2147483648 : Int) ≤ -2147483648) b387.1), (Int.le_trans b387.2 (by decide : (2147483647 : Int) ≤ 2147483647))⟩)  (p_0 := (TA_fr hF374 (by decide) p_0)) (p_1 := sf378) (p_2 := sf379) (p_3 := p_3) (p_4 := by omega) (p_5 := by omega) (p_6 := by omega) (p_7 := by omega) (p_8 := by omega) (p_9 := by omega) (p_10 := by omega) (p_11 := by omega) (p_12 := by omega) (p_13 := by omega) (p_14 := by omega) (p_15 := by omega) (p_16 := by omega) (p_17 := i5) (p_18 := (VB_mo p_22 (by omega))) (p_19 := hly) (p_20 := hb1) (p_21 := by omega) (p_22 := by omega) (p_23 := by omega) (p_24 := by omega) (p_25 := by omega) (p_26 := by omega) (p_27 := by omega) (p_28 := p_34) (p_29 := (PA_fr (hF374.2 52 rfl) p_35))) (fun o V_q hq => ?_)
          obtain ⟨G388, A389, st2_390, lg2_391, lb2_392, nw2_393, al2_394, fw2_395, rfl, rfl, hW396, hF397, hQ398, hQ399, hQ400, e401, e402, e403, e404, e405, e406, p407, p408, p409, p410, p411, p412, p413, p414, p415, p416, p417, p418, p419, p420, -⟩ := hq
          have hF422 := Fr_tr hF374 hF397 (Fr_sub (by decide)) (Fr_sub (by decide))
          have hC423 := Fx_tr hC375 hQ398 (by omega)
          have hAl424 := Fx_tr hAl376 hQ399 (by omega)
          have hBp425 := Fx_tr hBp377 hQ400 (by omega)
          have sf426 : PE 58 (La) (b4) (T0 18 (n).toNat) A389 := PE_fx hQ399 rfl (by omega) (by omega) sf380
          have bst2_390 : (-2147483648 : Int) ≤ st2_390 ∧ st2_390 ≤ 2147483647 := e401 ▸ hW396.1 70
          have blg2_391 : (0 : Int) ≤ lg2_391 ∧ lg2_391 ≤ 1 := e402 ▸ hW396.1 79
          have blb2_392 : (-2147483648 : Int) ≤ lb2_392 ∧ lb2_392 ≤ 2147483647 := e403 ▸ hW396.1 77
          have bnw2_393 : (-2147483648 : Int) ≤ nw2_393 ∧ nw2_393 ≤ 2147483647 := e404 ▸ hW396.1 81
          have bal2_394 : (-2147483648 : Int) ≤ al2_394 ∧ al2_394 ≤ 2147483647 := e405 ▸ hW396.1 89
          have bfw2_395 : (-2147483648 : Int) ≤ fw2_395 ∧ fw2_395 ≤ 2147483647 := e406 ▸ hW396.2 51 _
          refine .inl ⟨rfl, ?_⟩
          have sf427 : Cd (lg2_391 = 0 ∧ lb2_392 < 19999) (LZ A389 (lf) (ge) (lb + 1) (lb + 2)) := Cd_mk (fun hC => LZ_mv (Cg_fx (l0 := lb + 1) (l1 := lb + 2) hQ398 (Cd_ap p414 (by omega)) (by omega)) (by omega) (Cd_ap sf381 (by omega)))
          have sf428 : Cd (lg2_391 = 0 ∧ lb2_392 < 19999) (gA5 T0 A389 Q k (La) F Sn nw (n) ((i).toNat) (le) (lf) (st) (ge) (st1) (lb + 2) (lb1)) := Cd_mk (fun hC => gA5_mv (Cg_fx (l0 := lb + 2) (l1 := lb1) hQ398 (Cd_ap p414 (by omega)) (by omega)) (by omega) (Cd_ap sf382 (by omega)))
          have sf429 : Cd (lg2_391 = 0 ∧ lb2_392 < 19999) (LZ A389 (La i) (st1) (lb + 2) (lb1)) := Cd_mk (fun hC => LZ_mv (Cg_fx (l0 := lb + 2) (l1 := lb1) hQ398 (Cd_ap p414 (by omega)) (by omega)) (by omega) (Cd_ap sf383 (by omega)))
          have sf430 : Cd (lg2_391 = 0 ∧ lb2_392 < 19999) (gD T0 A389 F Sn nw (20) (T0 19 (c).toNat) (st1) (st2_299) (lb1) (lb2_301)) := Cd_mk (fun hC => gD_mv (Cg_fx (l0 := lb1) (l1 := lb2_301) hQ398 (Cd_ap p414 (by omega)) (by omega)) (by omega) (Cd_ap sf384 (by omega)))
          have sf431 : Cd (lg2_391 = 0 ∧ lb2_392 < 19999) (ST A389 (st2_299) (st2_332) (7) ((T0 25 (n).toNat + (2 * i)) + 1)) := Cd_mk (fun hC => ST_mv (Cg_fx (l0 := 0) (l1 := 0) hQ398 (Cd_ap p414 (by omega)) (by omega)) (by omega) (Cd_ap sf385 (by omega)))
          have sf432 : Cd (lg2_391 = 0 ∧ lb2_392 < 19999) (ST A389 (st2_332) (st2_360) (15) (20)) := Cd_mk (fun hC => ST_mv (Cg_fx (l0 := 0) (l1 := 0) hQ398 (Cd_ap p414 (by omega)) (by omega)) (by omega) (Cd_ap p372 (by omega)))
          have hBo433 : Cd (lg2_391 = 0 ∧ lb2_392 < 19999) (Fx [50] (lb + 1) A A389) := Cd_mk (fun hC => Fx_tr (Cd_ap hBo386 (by omega)) (Cd_ap p414 (by omega)) (by omega))
          refine jx_ld (pc_q := 484) (l_q := L) (st_q := [.ref 66]) rfl (jl_aloadn gL_0) ?_
          refine jx_ar (pc_q := 485) (st_q := [.int (i32 (0)), .ref 66]) rfl rfl rfl rfl ?_
          refine jx_ld (pc_q := 486) (l_q := L) (st_q := [.int (i32 (le)), .int (i32 (0)), .ref 66]) rfl (jl_iloadn gL_2) ?_
          refine jx_ar (pc_q := 487) (st_q := [.int (i32 (0)), .int (i32 (le)), .int (i32 (0)), .ref 66]) rfl rfl rfl rfl ?_
          refine jx_vr (pc_q := 490) (as := [.int (i32 (0)), .int (i32 (le)), .int (i32 (0))]) (st := []) rfl rfl rfl rfl ⟨rfl, rfl, Nat.le_of_ble_eq_true rfl⟩ rfl rfl (c_way (dd := d) (hd := by omega) (hW := hW396) (fn := 0) (to := le) (fr := 0) (st := st2_390) (e_st := show G388 70 = st2_390 from (e401)) (lg := lg2_391) (e_lg := show G388 79 = lg2_391 from (e402))  (h_fn := ⟨(by decide), (by decide)⟩) (h_to := ⟨(Int.le_trans (by decide : (-2147483648 : Int) ≤ -2147483648) rx_le.1), (Int.le_trans rx_le.2 (by decide : (2147483647 : Int) ≤ 2147483647))⟩) (h_fr := ⟨(by decide), (by decide)⟩)  (p_0 := by omega) (p_1 := by omega)) (fun o V_q hq => ?_)
          obtain ⟨G434, A435, st2_436, lg2_437, rfl, rfl, hW438, hF439, hQ440, e441, e442, p443, p444, p445, p446, p447, p448, -⟩ := hq
          have hF450 := Fr_tr hF422 hF439 (Fr_sub (by decide)) (Fr_sub (by decide))
          have hC451 := Fx_tr hC423 hQ440 (by omega)
          have hAl452 := Fx_f hAl424 hF439 (by decide)
          have hBp453 := Fx_f hBp425 hF439 (by decide)
          have sf454 : PE 58 (La) (b4) (T0 18 (n).toNat) A435 := PE_fr (hF439.2 58 rfl) sf426
          have sf455 := FA_fr (hF439.2 51 rfl) p418
          have sf456 := SA_fr (hF439.2 13 rfl) p419
          have bst2_436 : (-2147483648 : Int) ≤ st2_436 ∧ st2_436 ≤ 2147483647 := e441 ▸ hW438.1 70
          have blg2_437 : (0 : Int) ≤ lg2_437 ∧ lg2_437 ≤ 1 := e442 ▸ hW438.1 79
          refine .inl ⟨rfl, ?_⟩
          have sf457 : Cd (lg2_437 = 0 ∧ lb2_392 < 19999) (LZ A435 (lf) (ge) (lb + 1) (lb + 2)) := Cd_mk (fun hC => LZ_mv (Cg_fx (l0 := lb + 1) (l1 := lb + 2) hQ440 (Fx_f (w := lb + 2 + 1) Fx_rf hF439 (by decide)) (by omega)) (by omega) (Cd_ap sf427 (by omega)))
          have sf458 : Cd (lg2_437 = 0 ∧ lb2_392 < 19999) (gA5 T0 A435 Q k (La) F Sn nw (n) ((i).toNat) (le) (lf) (st) (ge) (st1) (lb + 2) (lb1)) := Cd_mk (fun hC => gA5_mv (Cg_fx (l0 := lb + 2) (l1 := lb1) hQ440 (Fx_f (w := lb1 + 1) Fx_rf hF439 (by decide)) (by omega)) (by omega) (Cd_ap sf428 (by omega)))
          have sf459 : Cd (lg2_437 = 0 ∧ lb2_392 < 19999) (LZ A435 (La i) (st1) (lb + 2) (lb1)) := Cd_mk (fun hC => LZ_mv (Cg_fx (l0 := lb + 2) (l1 := lb1) hQ440 (Fx_f (w := lb1 + 1) Fx_rf hF439 (by decide)) (by omega)) (by omega) (Cd_ap sf429 (by omega)))
          have sf460 : Cd (lg2_437 = 0 ∧ lb2_392 < 19999) (gD T0 A435 F Sn nw (20) (T0 19 (c).toNat) (st1) (st2_299) (lb1) (lb2_301)) := Cd_mk (fun hC => gD_mv (Cg_fx (l0 := lb1) (l1 := lb2_301) hQ440 (Fx_f (w := lb2_301 + 1) Fx_rf hF439 (by decide)) (by omega)) (by omega) (Cd_ap sf430 (by omega)))
          have sf461 : Cd (lg2_437 = 0 ∧ lb2_392 < 19999) (ST A435 (st2_299) (st2_332) (7) ((T0 25 (n).toNat + (2 * i)) + 1)) := Cd_mk (fun hC => ST_mv (Cg_fx (l0 := 0) (l1 := 0) hQ440 (Fx_f (w := 0 + 1) Fx_rf hF439 (by decide)) (by omega)) (by omega) (Cd_ap sf431 (by omega)))
          have sf462 : Cd (lg2_437 = 0 ∧ lb2_392 < 19999) (ST A435 (st2_332) (st2_360) (15) (20)) := Cd_mk (fun hC => ST_mv (Cg_fx (l0 := 0) (l1 := 0) hQ440 (Fx_f (w := 0 + 1) Fx_rf hF439 (by decide)) (by omega)) (by omega) (Cd_ap sf432 (by omega)))
          have sf463 : Cd (lg2_437 = 0 ∧ lb2_392 < 19999) (gP T0 A435 Q (k) (F) (Sn) (nw) (T0 21 (c).toNat) (st2_360) (st2_390) (lb2_301) (lb2_392)) := Cd_mk (fun hC => gP_mv (Cg_fx (l0 := lb2_301) (l1 := lb2_392) hQ440 (Fx_f (w := lb2_392 + 1) Fx_rf hF439 (by decide)) (by omega)) (by omega) (Cd_ap p420 (by omega)))
          have hBo464 : Cd (lg2_437 = 0 ∧ lb2_392 < 19999) (Fx [50] (lb + 1) A A435) := Cd_mk (fun hC => Fx_f (Cd_ap hBo433 (by omega)) hF439 (by decide))
          refine jx_inc (pc_q := 493) (l_q := jSto1 L 5 (.int (i32 ((i + (1)))))) (x := i) rfl gL_5 (by decide) rfl rfl ?_
          obtain ⟨L465, eL465⟩ : ∃ q, q = jSto1 L 5 (.int (i32 ((i + (1))))) := ⟨_, rfl⟩
          rw [← eL465]
          have gL465_0 : jGet L465 0 = some (.ref 66) := eL465 ▸ jg_ne (by decide) gL_0 rfl
          have gL465_1 : jGet L465 1 = some (.int (i32 (n))) := eL465 ▸ jg_ne (by decide) gL_1 rfl
          have gL465_2 : jGet L465 2 = some (.int (i32 (le))) := eL465 ▸ jg_ne (by decide) gL_2 rfl
          have gL465_3 : jGet L465 3 = some (.int (i32 (lf))) := eL465 ▸ jg_ne (by decide) gL_3 rfl
          have gL465_4 : jGet L465 4 = some (.int (i32 (b4))) := eL465 ▸ jg_ne (by decide) gL_4 rfl
          have gL465_6 : jGet L465 6 = some (.int (i32 (c))) := eL465 ▸ jg_ne (by decide) gL_6 rfl
          have gL465_5 : jGet L465 5 = some (.int (i32 ((i + (1))))) := eL465 ▸ jg_eq
          refine jx_ld (pc_q := 494) (l_q := L465) (st_q := [.ref 66]) rfl (jl_aloadn gL465_0) ?_
          refine jr_get (pc_q := 497) (i := 39) (v := .ref 89) rfl rfl (by decide) rfl rfl ?_
          refine jx_ld (pc_q := 499) (l_q := L465) (st_q := [.int (i32 (c)), .ref 89]) rfl (jl_iload gL465_6) ?_
          have b466 : (-2147483648 : Int) ≤ T0 22 (c).toNat ∧ T0 22 (c).toNat ≤ 2147483647 := hWT.2 22 _
          refine jr_ldv (pc_q := 500) (i := 22) (m := 7000) (z := c) (y := T0 22 (c).toNat) rfl (by decide) rfl (by decide) (by omega) (by omega) rfl (show A435 22 (c).toNat = T0 22 (c).toNat from (congrFun ((hF439.2 22 rfl).trans ((hF397.2 22 rfl).trans ((hF363.2 22 rfl).trans ((hF335.2 22 rfl).trans ((hF303.2 22 rfl).trans ((hF28.2 22 rfl).trans ((hFx.2 22 rfl).trans (p_0 22 rfl)))))))) _)) ?_
          refine jx_ld (pc_q := 502) (l_q := jSto1 L465 6 (.int (i32 (T0 22 (c).toNat)))) (st_q := []) rfl rfl ?_
          obtain ⟨L467, eL467⟩ : ∃ q, q = jSto1 L465 6 (.int (i32 (T0 22 (c).toNat))) := ⟨_, rfl⟩
          rw [← eL467]
          have gL467_0 : jGet L467 0 = some (.ref 66) := eL467 ▸ jg_ne (by decide) gL465_0 rfl
          have gL467_1 : jGet L467 1 = some (.int (i32 (n))) := eL467 ▸ jg_ne (by decide) gL465_1 rfl
          have gL467_2 : jGet L467 2 = some (.int (i32 (le))) := eL467 ▸ jg_ne (by decide) gL465_2 rfl
          have gL467_3 : jGet L467 3 = some (.int (i32 (lf))) := eL467 ▸ jg_ne (by decide) gL465_3 rfl
          have gL467_4 : jGet L467 4 = some (.int (i32 (b4))) := eL467 ▸ jg_ne (by decide) gL465_4 rfl
          have gL467_5 : jGet L467 5 = some (.int (i32 ((i + (1))))) := eL467 ▸ jg_ne (by decide) gL465_5 rfl
          have gL467_6 : jGet L467 6 = some (.int (i32 (T0 22 (c).toNat))) := eL467 ▸ jg_eq
          refine jx_go (tg := 407) rfl rfl ?_
          exact ih407 _ (hmt) L467 G434 A435 (le) (lf) (b4) ((i + (1))) (T0 22 (c).toNat) (st2_436) (lg2_437) (lb2_392) (fw2_395) (m1) (t1) (ge) (b2) (La) rfl gL467_0 gL467_1 gL467_2 gL467_3 gL467_4 gL467_5 gL467_6 hW438 hF450 hC451 hAl452 hBp453 (Cd_mk (fun hC => Cd_ap hBo464 (by omega))) ((e441)) ((e442)) (((hF439.1 77 rfl).trans (e403))) ((congrFun (hF439.2 51 rfl) _).trans (e406)) (Eq.trans (show G434 81 = nw2_393 from ((hF439.1 81 rfl).trans (e404))) (by omega)) (Eq.trans (show G434 89 = al2_394 from ((hF439.1 89 rfl).trans (e405))) (by omega)) (by omega) (by omega) (by omega) (by omega) (by omega) (by omega) (by omega) (by omega) (by omega) (by omega) ((Cd_mk (fun hC => by have := Cd_ap iv_5 (by omega); have := Cd_ap p313 (by omega); have := Cd_ap p412 (by omega); omega))) (by omega) (by omega) (by omega) ((Cd_mk (fun hC => (by have hr := Cd_ap iv_9 (by omega); omega)))) (by omega) (by omega) ((Cd_mk (fun hC => (by have hr := Cd_ap iv_12 (by omega); omega)))) (by omega) (by omega) (by omega) (by omega) (by omega) (by omega) (by omega) (by omega) (sf455) (sf456) ((hnx _ (by omega))) (hb2) (by omega) (sf454) (iv_27) ((Cd_mk (fun hC => (LZ_su (Cd_ap sf457 (by omega)) (by omega) (by omega))))) ((Cd_mk (fun hC => (gA5_nx (by omega) (by omega) (Cd_ap sf458 (by omega)) (by omega) (Cd_ap sf459 (by omega)).2.2.2 hcx ⟨_, _, lb2_301, by omega, by omega, .inl ⟨by omega, _, (Cd_ap sf460 (by omega)), SQ_c (ST_e (Cd_ap sf461 (by omega)) rfl (by omega)) (SQ_c (Cd_ap sf462 (by omega)) SQ_n)⟩, (Cd_ap sf463 (by omega)), (Cd_ap p448 (by omega))⟩))))
set_option maxRecDepth 20000 in
set_option maxHeartbeats 4000000 in
theorem c_genAlt_at_282 {X : jX} {k : Nat} (hN : GN X k) {d : Nat} {T0 : Nat → Nat → Int} {Q F Sn : Int → Int} {Vs : Nat → Prop} {sb pb : Int} {c0 c1 : jC} {G : Nat → Int} {A : Nat → Nat → Int} {T : jH} {n : Int} {hi s0 s1 fr z D bd : Int} {st lg lb nw al fw : Int} (hd : 2 * k + 63 ≤ d + 1) (hW : Wk G A) (e_st : G 70 = st) (e_lg : G 79 = lg) (e_lb : G 77 = lb) (e_nw : G 81 = nw) (e_al : G 89 = al) (e_fw : A 51 (nw).toNat = fw) (h_n : (-2147483648 : Int) ≤ n ∧ n ≤ 2147483647) (p_0 : TA T0 A) (p_1 : FA F (nw) A) (p_2 : SA T0 Vs Sn A) (p_3 : VW T0 Vs (nw)) (p_4 : 0 ≤ nw) (p_5 : nw + (k : Int) + 1 ≤ 38) (p_6 : 0 ≤ al) (p_7 : al + (k : Int) + 1 ≤ 38) (p_8 : 0 ≤ st) (p_9 : st ≤ 7000) (p_10 : 0 ≤ lb) (p_11 : lb + bd + 7000 - st ≤ 1900000000) (p_12 : hi ≤ 6999) (p_13 : sb ≤ 202) (p_14 : 0 ≤ n) (p_15 : n < hi) (p_16 : 0 ≤ s0) (p_17 : s0 ≤ s1) (p_18 : s1 ≤ sb) (p_19 : 1 ≤ T0 18 (n).toNat) (p_20 : T0 18 (n).toNat ≤ 8) (p_21 : LN2 T0 (wG T0 Vs sb (wP T0 sb pb k Vs)) (T0 18 (n).toNat) (n) (T0 21 (n).toNat) (0) (n + 1) (hi) (s0) (s1) (n + 1) (s0)) (p_22 : VB (Vs) (s0)) (p_23 : (∀ l, CH T0 (T0 21 (n).toNat) l → ∀ c ∈ l, lG T0 (lP T0 k) (fr) (nw) (z) (D) c)) (p_24 : 0 ≤ T0 25 (n).toNat) (p_25 : T0 25 (n).toNat + 2 * T0 18 (n).toNat ≤ 4000) (p_26 : WB (n) (hi) (bd)) (p_27 : 1 ≤ fr) (p_28 : z ≤ 4000) (p_29 : 0 ≤ D) (p_30 : D ≤ 4000) (p_31 : -4000 ≤ fw - D) (p_32 : fw ≤ 0) (p_33 : pb ≤ 24) (p_34 : PV T0 pb) (p_35 : PA Q pb A) : ∀ (m : Nat) (L : jL) (Gx : Nat → Int) (Ax : Nat → Nat → Int) (le lf b4 i c st1 lg1 lb1 fw1 gm gt ga gb gc gd : Int) (La : Int → Int), (hi - gm).toNat = m → jGet L 0 = some (.ref 66) → jGet L 1 = some (.int (i32 (n))) → jGet L 2 = some (.int (i32 le)) → jGet L 3 = some (.int (i32 lf)) → jGet L 4 = some (.int (i32 b4)) → jGet L 5 = some (.int (i32 i)) → jGet L 6 = some (.int (i32 c)) → Wk Gx Ax → Fr [70, 77, 79, 81, 89] [13, 44, 45, 46, 47, 50, 51, 56, 57, 58] G A Gx Ax → Fx [44, 45, 46, 47] (st) A Ax → Fx [58] (8 * al) A Ax → Fx [56, 57] (8 * nw) A Ax → Cd (lg1 = 0 ∧ lb1 < 19999) (Fx [50] (lb + 1) A Ax) → Gx 70 = st1 → Gx 79 = lg1 → Gx 77 = lb1 → Ax 51 (nw).toNat = fw1 → Gx 81 = nw → Gx 89 = (al + 1) → ((-2147483648 : Int) ≤ le ∧ le ≤ 2147483647) → ((-2147483648 : Int) ≤ lf ∧ lf ≤ 2147483647) → ((-2147483648 : Int) ≤ b4 ∧ b4 ≤ 2147483647) → ((-2147483648 : Int) ≤ i ∧ i ≤ 2147483647) → ((-2147483648 : Int) ≤ c ∧ c ≤ 2147483647) → (st ≤ st1) → (st1 ≤ 7000) → (lg ≤ lg1) → (lg1 ≤ 1) → (lb + 2 ≤ lb1) → (Cd (lg1 = 0) (lb1 - lb ≤ st1 - st)) → (lb1 - lb ≤ st1 - st + 2 + 112000) → (1 ≤ le) → (le ≤ 19999) → (Cd (lb1 < 20000) (le = lb + 1)) → (1 ≤ lf) → (lf ≤ 19999) → (Cd (lb1 < 20000) (lf = lb + 2)) → (b4 = 8 * al) → (0 ≤ i) → (i ≤ T0 18 (n).toNat) → (n + 1 ≤ gm) → (gm ≤ hi) → (s0 ≤ gt) → (gt ≤ s1) → (fw1 = fw) → (FA F (nw) Ax) → (SA T0 Vs Sn Ax) → (LN2 T0 (wG T0 Vs sb (wP T0 sb pb k Vs)) (T0 18 (n).toNat) (n) (c) (i) (n + 1) (hi) (s0) (s1) (gm) (gt)) → (ga ≤ st1) → (gb ≤ st1) → (gc ≤ st1) → (gd ≤ st1) → (PE 58 (La) (b4) (T0 18 (n).toNat) Ax) → (LBd (La) (T0 18 (n).toNat)) → (Cd (lg1 = 0 ∧ lb1 < 19999) (gA1 T0 Ax (La) F Sn nw (n) ((T0 18 (n).toNat).toNat) (st) (ga) (lb + 2) (lb1))) → (Cd (lg1 = 0 ∧ lb1 < 19999) (ST Ax (ga) (gb) (15) (22))) → (Cd (lg1 = 0 ∧ lb1 < 19999) (gA2 T0 Ax (n) ((T0 18 (n).toNat).toNat) (gb) (gc))) → (Cd (lg1 = 0 ∧ lb1 < 19999) (ST Ax (gc) (gd) (15) (25))) → (Cd (lg1 = 0 ∧ lb1 < 19999) (gA3 T0 Ax (La) (lf) (n) ((i).toNat) (gd) (st1))) → wj X d jm359 (282, L, [], rV c0 c1 Gx Ax T) (fun o V_q => ∃ (G_q : Nat → Int) (A_q : Nat → Nat → Int) (st2 : Int) (lg2 : Int) (lb2 : Int) (nw2 : Int) (al2 : Int) (fw2 : Int), V_q = rV c0 c1 G_q A_q T ∧ o = .inl none ∧ Wk G_q A_q ∧ Fr [70, 77, 79, 81, 89] [13, 44, 45, 46, 47, 50, 51, 56, 57, 58] G A G_q A_q ∧ Fx [44, 45, 46, 47] (st) A A_q ∧ Fx [58] (8 * al) A A_q ∧ Fx [56, 57] (8 * nw) A A_q ∧ G_q 70 = st2 ∧ G_q 79 = lg2 ∧ G_q 77 = lb2 ∧ G_q 81 = nw2 ∧ G_q 89 = al2 ∧ A_q 51 (nw).toNat = fw2 ∧ (st ≤ st2) ∧ (st2 ≤ 7000) ∧ (lg ≤ lg2) ∧ (lg2 ≤ 1) ∧ (lb ≤ lb2) ∧ (Cd (lg2 = 0) (lb2 - lb ≤ st2 - st)) ∧ (lb2 - lb ≤ st2 - st + bd) ∧ (Cd (lg2 = 0 ∧ lb2 < 19999) (Fx [50] (lb + 1) A A_q)) ∧ (nw2 = nw) ∧ (al2 = al) ∧ (fw2 = fw) ∧ (FA F (nw) A_q) ∧ (SA T0 Vs Sn A_q) ∧ (Cd (lg2 = 0 ∧ lb2 < 19999) (gAl T0 A_q F Sn nw (gP T0 A_q Q k F Sn nw) (n) (st) (st2) (lb) (lb2))) ∧ True) := by
  have hF0 : Fr [70, 77, 79, 81, 89] [13, 44, 45, 46, 47, 50, 51, 56, 57, 58] G A G A := Fr_rf
  have hC0 : Fx [44, 45, 46, 47] (st) A A := Fx_rf
  have hAl0 : Fx [58] (8 * al) A A := Fx_rf
  have hBp0 : Fx [56, 57] (8 * nw) A A := Fx_rf
  have b_st : (-2147483648 : Int) ≤ st ∧ st ≤ 2147483647 := e_st ▸ hW.1 70
  have b_lg : (0 : Int) ≤ lg ∧ lg ≤ 1 := e_lg ▸ hW.1 79
  have b_lb : (-2147483648 : Int) ≤ lb ∧ lb ≤ 2147483647 := e_lb ▸ hW.1 77
  have b_nw : (-2147483648 : Int) ≤ nw ∧ nw ≤ 2147483647 := e_nw ▸ hW.1 81
  have b_al : (-2147483648 : Int) ≤ al ∧ al ≤ 2147483647 := e_al ▸ hW.1 89
  have b_fw : (-2147483648 : Int) ≤ fw ∧ fw ≤ 2147483647 := e_fw ▸ hW.2 51 _
  have hWT := TA_w hW p_0
  have hBo0 : Cd (lg = 0 ∧ lb < 19999) (Fx [50] (lb + 1) A A) := Cd_mk (fun _ => Fx_rf)
  have hfw := FA_at p_1 p_4 e_fw
  have hbp := WB_p p_26 (by omega) (by omega) (by omega)
  intro m
  induction m using Nat.strongRecOn with
  | ind m ih282 =>
    intro L Gx Ax le lf b4 i c st1 lg1 lb1 fw1 gm gt ga gb gc gd La hm gL_0 gL_1 gL_2 gL_3 gL_4 gL_5 gL_6 hWx hFx hCx hAlx hBpx hBox ex_st1 ex_lg1 ex_lb1 ex_fw1 fx_81 fx_89 rx_le rx_lf rx_b4 rx_i rx_c iv_0 iv_1 iv_2 iv_3 iv_4 iv_5 iv_6 iv_7 iv_8 iv_9 iv_10 iv_11 iv_12 iv_13 iv_14 iv_15 iv_16 iv_17 iv_18 iv_19 iv_20 iv_21 iv_22 iv_23 iv_24 iv_25 iv_26 iv_27 iv_28 iv_29 iv_30 iv_31 iv_32 iv_33 iv_34
    have b_st1 : (-2147483648 : Int) ≤ st1 ∧ st1 ≤ 2147483647 := ex_st1 ▸ hWx.1 70
    have b_lg1 : (0 : Int) ≤ lg1 ∧ lg1 ≤ 1 := ex_lg1 ▸ hWx.1 79
    have b_lb1 : (-2147483648 : Int) ≤ lb1 ∧ lb1 ≤ 2147483647 := ex_lb1 ▸ hWx.1 77
    refine jx_ld (pc_q := 284) (l_q := L) (st_q := [.int (i32 (c))]) rfl (jl_iload gL_6) ?_
    refine jx_if_le (pc_q := 287) (tg := 385) rfl rfl rfl (Int.le_trans (by decide : (-2147483648 : Int) ≤ -2147483648) rx_c.1) (Int.le_trans rx_c.2 (by decide : (2147483647 : Int) ≤ 2147483647)) (fun h468 => ?_) (fun h468 => ?_)
    · have _q := h468
      have hie := LN2_end iv_23 (by omega)
      refine jx_ld (pc_q := 386) (l_q := L) (st_q := [.ref 66]) rfl (jl_aloadn gL_0) ?_
      refine jx_ar (pc_q := 388) (st_q := [.int (i32 (28)), .ref 66]) rfl rfl rfl rfl ?_
      refine jx_vr (pc_q := 391) (as := [.int (i32 (28))]) (st := []) rfl rfl rfl rfl ⟨rfl, rfl, Nat.le_of_ble_eq_true rfl⟩ rfl rfl (c_op (dd := d) (hd := by omega) (hW := hWx) (oo := 28) (st := st1) (e_st := show Gx 70 = st1 from (ex_st1)) (lg := lg1) (e_lg := show Gx 79 = lg1 from (ex_lg1))  (h_oo := ⟨(by decide), (by decide)⟩)  (p_0 := by omega) (p_1 := by omega)) (fun o V_q hq => ?_)
      obtain ⟨G469, A470, st2_471, lg2_472, rfl, rfl, hW473, hF474, hQ475, e476, e477, p478, p479, p480, p481, p482, p483, -⟩ := hq
      have hF485 := Fr_tr hFx hF474 (Fr_sub (by decide)) (Fr_sub (by decide))
      have hC486 := Fx_tr hCx hQ475 (by omega)
      have hAl487 := Fx_f hAlx hF474 (by decide)
      have hBp488 := Fx_f hBpx hF474 (by decide)
      have sf489 := FA_fr (hF474.2 51 rfl) iv_21
      have sf490 := SA_fr (hF474.2 13 rfl) iv_22
      have sf491 : PE 58 (La) (b4) (T0 18 (n).toNat) A470 := PE_fr (hF474.2 58 rfl) iv_28
      have bst2_471 : (-2147483648 : Int) ≤ st2_471 ∧ st2_471 ≤ 2147483647 := e476 ▸ hW473.1 70
      have blg2_472 : (0 : Int) ≤ lg2_472 ∧ lg2_472 ≤ 1 := e477 ▸ hW473.1 79
      refine .inl ⟨rfl, ?_⟩
      have sf492 : Cd (lg2_472 = 0 ∧ lb1 < 19999) (gA1 T0 A470 (La) F Sn nw (n) ((T0 18 (n).toNat).toNat) (st) (ga) (lb + 2) (lb1)) := Cd_mk (fun hC => gA1_mv (Cg_fx (l0 := lb + 2) (l1 := lb1) hQ475 (Fx_f (w := lb1 + 1) Fx_rf hF474 (by decide)) (by omega)) (by omega) (Cd_ap iv_30 (by omega)))
      have sf493 : Cd (lg2_472 = 0 ∧ lb1 < 19999) (ST A470 (ga) (gb) (15) (22)) := Cd_mk (fun hC => ST_mv (Cg_fx (l0 := 0) (l1 := 0) hQ475 (Fx_f (w := 0 + 1) Fx_rf hF474 (by decide)) (by omega)) (by omega) (Cd_ap iv_31 (by omega)))
      have sf494 : Cd (lg2_472 = 0 ∧ lb1 < 19999) (gA2 T0 A470 (n) ((T0 18 (n).toNat).toNat) (gb) (gc)) := Cd_mk (fun hC => gA2_mv (Cg_fx (l0 := 0) (l1 := 0) hQ475 (Fx_f (w := 0 + 1) Fx_rf hF474 (by decide)) (by omega)) (by omega) (Cd_ap iv_32 (by omega)))
      have sf495 : Cd (lg2_472 = 0 ∧ lb1 < 19999) (ST A470 (gc) (gd) (15) (25)) := Cd_mk (fun hC => ST_mv (Cg_fx (l0 := 0) (l1 := 0) hQ475 (Fx_f (w := 0 + 1) Fx_rf hF474 (by decide)) (by omega)) (by omega) (Cd_ap iv_33 (by omega)))
      have sf496 : Cd (lg2_472 = 0 ∧ lb1 < 19999) (gA3 T0 A470 (La) (lf) (n) ((i).toNat) (gd) (st1)) := Cd_mk (fun hC => gA3_mv (Cg_fx (l0 := 0) (l1 := 0) hQ475 (Fx_f (w := 0 + 1) Fx_rf hF474 (by decide)) (by omega)) (by omega) (Cd_ap iv_34 (by omega)))
      have hBo497 : Cd (lg2_472 = 0 ∧ lb1 < 19999) (Fx [50] (lb + 1) A A470) := Cd_mk (fun hC => Fx_f (Cd_ap hBox (by omega)) hF474 (by decide))
      have _q : True := trivial
      have _q : True := trivial
      refine jx_ld (pc_q := 392) (l_q := L) (st_q := [.ref 66]) rfl (jl_aloadn gL_0) ?_
      refine jx_ld (pc_q := 393) (l_q := L) (st_q := [.int (i32 (lf)), .ref 66]) rfl (jl_iloadn gL_3) ?_
      refine jx_vr (pc_q := 396) (as := [.int (i32 (lf))]) (st := []) rfl rfl rfl rfl ⟨rfl, rfl, Nat.le_of_ble_eq_true rfl⟩ rfl rfl (c_set (dd := d) (hd := by omega) (hW := hW473) (l := lf) (st := st2_471) (e_st := show G469 70 = st2_471 from (e476))  (h_l := ⟨(Int.le_trans (by decide : (-2147483648 : Int) ≤ -2147483648) rx_lf.1), (Int.le_trans rx_lf.2 (by decide : (2147483647 : Int) ≤ 2147483647))⟩)  (p_0 := by omega) (p_1 := by omega)) (fun o V_q hq => ?_)
      obtain ⟨G498, A499, ls2_500, rfl, rfl, hW501, hF502, e503, p504, q505⟩ := hq
      have hF506 := Fr_tr hF485 hF502 (Fr_sub (by decide)) (Fr_sub (by decide))
      have hC507 := Fx_f hC486 hF502 (by decide)
      have hAl508 := Fx_f hAl487 hF502 (by decide)
      have hBp509 := Fx_f hBp488 hF502 (by decide)
      have bls2_500 : (-2147483648 : Int) ≤ ls2_500 ∧ ls2_500 ≤ 2147483647 := e503 ▸ hW501.2 50 _
      refine .inl ⟨rfl, ?_⟩
      have a510 := q505
      have sf511 := FA_fr ((congrFun a510 51).trans (uA_ne (by decide))) sf489
      have sf512 := SA_fr ((congrFun a510 13).trans (uA_ne (by decide))) sf490
      have sf513 : PE 58 (La) (b4) (T0 18 (n).toNat) A499 := PE_fr ((congrFun a510 58).trans (uA_ne (by decide))) sf491
      have sf514 : Cd (lg2_472 = 0 ∧ lb1 < 19999) (gA1 T0 A499 (La) F Sn nw (n) ((T0 18 (n).toNat).toNat) (st) (ga) (lb + 2) (lb1)) := Cd_mk (fun hC => gA1_mv (Cg_set (K := ga) a510 (by omega) (by have hr := Cd_ap iv_12 (by omega); omega)) (Int.le_refl _) (Cd_ap sf492 (by omega)))
      have sf515 : Cd (lg2_472 = 0 ∧ lb1 < 19999) (ST A499 (ga) (gb) (15) (22)) := Cd_mk (fun hC => ST_mv (Cg_set (K := gb) (l0 := lf) (l1 := lf) a510 (by omega) (by omega)) (Int.le_refl _) (Cd_ap sf493 (by omega)))
      have sf516 : Cd (lg2_472 = 0 ∧ lb1 < 19999) (gA2 T0 A499 (n) ((T0 18 (n).toNat).toNat) (gb) (gc)) := Cd_mk (fun hC => gA2_mv (Cg_set (K := gc) (l0 := lf) (l1 := lf) a510 (by omega) (by omega)) (Int.le_refl _) (Cd_ap sf494 (by omega)))
      have sf517 : Cd (lg2_472 = 0 ∧ lb1 < 19999) (ST A499 (gc) (gd) (15) (25)) := Cd_mk (fun hC => ST_mv (Cg_set (K := gd) (l0 := lf) (l1 := lf) a510 (by omega) (by omega)) (Int.le_refl _) (Cd_ap sf495 (by omega)))
      have sf518 : Cd (lg2_472 = 0 ∧ lb1 < 19999) (gA3 T0 A499 (La) (lf) (n) ((i).toNat) (gd) (st1)) := Cd_mk (fun hC => gA3_mv (Cg_set (K := st1) (l0 := lf) (l1 := lf) a510 (by omega) (by omega)) (Int.le_refl _) (Cd_ap sf496 (by omega)))
      have sf519 : Cd (lg2_472 = 0 ∧ lb1 < 19999) (ST A499 (st1) (st2_471) (15) (28)) := Cd_mk (fun hC => ST_mv (Cg_set (K := st2_471) (l0 := lf) (l1 := lf) a510 (by omega) (by omega)) (Int.le_refl _) (Cd_ap p483 (by omega)))
      have hBo520 : Cd (lg2_472 = 0 ∧ lb1 < 19999) (Fx [50] (lb + 1) A A499) := Cd_mk (fun hC => Fx_u a510 (Cd_ap hBo497 (by omega)) (by omega) (by have hr := Cd_ap iv_12 (by omega); omega))
      refine jx_ar (pc_q := 397) (st_q := [.int (i32 (0))]) rfl rfl rfl rfl ?_
      refine jx_ld (pc_q := 399) (l_q := jSto1 L 5 (.int (i32 (0)))) (st_q := []) rfl rfl ?_
      obtain ⟨L521, eL521⟩ : ∃ q, q = jSto1 L 5 (.int (i32 (0))) := ⟨_, rfl⟩
      rw [← eL521]
      have gL521_0 : jGet L521 0 = some (.ref 66) := eL521 ▸ jg_ne (by decide) gL_0 rfl
      have gL521_1 : jGet L521 1 = some (.int (i32 (n))) := eL521 ▸ jg_ne (by decide) gL_1 rfl
      have gL521_2 : jGet L521 2 = some (.int (i32 (le))) := eL521 ▸ jg_ne (by decide) gL_2 rfl
      have gL521_3 : jGet L521 3 = some (.int (i32 (lf))) := eL521 ▸ jg_ne (by decide) gL_3 rfl
      have gL521_4 : jGet L521 4 = some (.int (i32 (b4))) := eL521 ▸ jg_ne (by decide) gL_4 rfl
      have gL521_6 : jGet L521 6 = some (.int (i32 (c))) := eL521 ▸ jg_ne (by decide) gL_6 rfl
      have gL521_5 : jGet L521 5 = some (.int (i32 (0))) := eL521 ▸ jg_eq
      refine jx_ld (pc_q := 400) (l_q := L521) (st_q := [.ref 66]) rfl (jl_aloadn gL521_0) ?_
      refine jr_get (pc_q := 403) (i := 38) (v := .ref 88) rfl rfl (by decide) rfl rfl ?_
      refine jx_ld (pc_q := 404) (l_q := L521) (st_q := [.int (i32 (n)), .ref 88]) rfl (jl_iloadn gL521_1) ?_
      have b522 : (-2147483648 : Int) ≤ T0 21 (n).toNat ∧ T0 21 (n).toNat ≤ 2147483647 := hWT.2 21 _
      refine jr_ldv (pc_q := 405) (i := 21) (m := 7000) (z := n) (y := T0 21 (n).toNat) rfl (by decide) rfl (by decide) (by omega) (by omega) rfl (show A499 21 (n).toNat = T0 21 (n).toNat from (congrFun ((hF502.2 21 rfl).trans ((hF474.2 21 rfl).trans ((hFx.2 21 rfl).trans (p_0 21 rfl)))) _)) ?_
      refine jx_ld (pc_q := 407) (l_q := jSto1 L521 6 (.int (i32 (T0 21 (n).toNat)))) (st_q := []) rfl rfl ?_
      obtain ⟨L523, eL523⟩ : ∃ q, q = jSto1 L521 6 (.int (i32 (T0 21 (n).toNat))) := ⟨_, rfl⟩
      rw [← eL523]
      have gL523_0 : jGet L523 0 = some (.ref 66) := eL523 ▸ jg_ne (by decide) gL521_0 rfl
      have gL523_1 : jGet L523 1 = some (.int (i32 (n))) := eL523 ▸ jg_ne (by decide) gL521_1 rfl
      have gL523_2 : jGet L523 2 = some (.int (i32 (le))) := eL523 ▸ jg_ne (by decide) gL521_2 rfl
      have gL523_3 : jGet L523 3 = some (.int (i32 (lf))) := eL523 ▸ jg_ne (by decide) gL521_3 rfl
      have gL523_4 : jGet L523 4 = some (.int (i32 (b4))) := eL523 ▸ jg_ne (by decide) gL521_4 rfl
      have gL523_5 : jGet L523 5 = some (.int (i32 (0))) := eL523 ▸ jg_ne (by decide) gL521_5 rfl
      have gL523_6 : jGet L523 6 = some (.int (i32 (T0 21 (n).toNat))) := eL523 ▸ jg_eq
      exact c_genAlt_at_407 (X := X) (k := k) (hN := hN) (d := d) (T0 := T0) (Q := Q) (F := F) (Sn := Sn) (Vs := Vs) (sb := sb) (pb := pb) (c0 := c0) (c1 := c1) (G := G) (A := A) (T := T) (n := n) (hi := hi) (s0 := s0) (s1 := s1) (fr := fr) (z := z) (D := D) (bd := bd) (st := st) (lg := lg) (lb := lb) (nw := nw) (al := al) (fw := fw) (hd := hd) (hW := hW) (e_st := e_st) (e_lg := e_lg) (e_lb := e_lb) (e_nw := e_nw) (e_al := e_al) (e_fw := e_fw) (h_n := h_n) (p_0 := p_0) (p_1 := p_1) (p_2 := p_2) (p_3 := p_3) (p_4 := p_4) (p_5 := p_5) (p_6 := p_6) (p_7 := p_7) (p_8 := p_8) (p_9 := p_9) (p_10 := p_10) (p_11 := p_11) (p_12 := p_12) (p_13 := p_13) (p_14 := p_14) (p_15 := p_15) (p_16 := p_16) (p_17 := p_17) (p_18 := p_18) (p_19 := p_19) (p_20 := p_20) (p_21 := p_21) (p_22 := p_22) (p_23 := p_23) (p_24 := p_24) (p_25 := p_25) (p_26 := p_26) (p_27 := p_27) (p_28 := p_28) (p_29 := p_29) (p_30 := p_30) (p_31 := p_31) (p_32 := p_32) (p_33 := p_33) (p_34 := p_34) (p_35 := p_35) _ L523 G498 A499 (le) (lf) (b4) (0) (T0 21 (n).toNat) (st2_471) (lg2_472) (lb1) (fw1) (n + 1) (s0) (st2_471) (0) (La) rfl gL523_0 gL523_1 gL523_2 gL523_3 gL523_4 gL523_5 gL523_6 hW501 hF506 hC507 hAl508 hBp509 (Cd_mk (fun hC => Cd_ap hBo520 (by omega))) (((hF502.1 70 rfl).trans (e476))) (((hF502.1 79 rfl).trans (e477))) (((hF502.1 77 rfl).trans ((hF474.1 77 rfl).trans (ex_lb1)))) ((congrFun ((hF502.2 51 rfl).trans (hF474.2 51 rfl)) _).trans (ex_fw1)) (((hF502.1 81 rfl).trans ((hF474.1 81 rfl).trans (fx_81)))) (((hF502.1 89 rfl).trans ((hF474.1 89 rfl).trans (fx_89)))) (by omega) (by omega) (by omega) (by omega) (by omega) (by omega) (by omega) (by omega) (by omega) (by omega) ((Cd_mk (fun hC => by have := Cd_ap iv_5 (by omega); omega))) (by omega) (by omega) (by omega) ((Cd_mk (fun hC => (by have hr := Cd_ap iv_9 (by omega); omega)))) (by omega) (by omega) ((Cd_mk (fun hC => (by have hr := Cd_ap iv_12 (by omega); omega)))) (by omega) (by omega) (by omega) (by omega) (by omega) (by omega) (by omega) (by omega) (sf511) (sf512) (p_21) ((show (0 : Int) = 200000 * (_ - _) by omega)) (by omega) (sf513) (iv_29) ((Cd_mk (fun hC => (LZ_mk (l0 := lb + 1) (l1 := lb + 2) (by omega) (by have hr := Cd_ap iv_12 (by omega); omega) (by have hr := Cd_ap iv_12 (by omega); omega) ((show A499 50 (lf).toNat = ls2_500 from (e503)).trans (by omega)))))) ((Cd_mk (fun hC => (gA5_0 (by omega) (Cd_ap sf514 (by omega)) (Cd_ap sf515 (by omega)) (Cd_ap sf516 (by omega)) (Cd_ap sf517 (by omega)) (Cd_ap sf518 (by omega)) (Cd_ap sf519 (by omega)) rfl rfl (by omega) rfl))))
    · have _q := h468
      obtain ⟨hi0, hi1, hcx, m1, t1, q1, q2, q3, q4, q5, q6, ⟨i1, i2, x, i3, i4, i5, i6⟩, hnx⟩ := LN2_hd iv_23 (by omega); have hmt : (hi - m1).toNat < m := mt_lt hm (by omega) (by omega); have hla : Ax 58 (b4 + i).toNat = La i := iv_28 i (by omega) (by omega); have hlb := iv_29 i (by omega) (by omega)
      refine jx_ld (pc_q := 288) (l_q := L) (st_q := [.ref 66]) rfl (jl_aloadn gL_0) ?_
      refine jx_ar (pc_q := 289) (st_q := [.int (i32 (4)), .ref 66]) rfl rfl rfl rfl ?_
      refine jx_ld (pc_q := 290) (l_q := L) (st_q := [.ref 66, .int (i32 (4)), .ref 66]) rfl (jl_aloadn gL_0) ?_
      refine jr_get (pc_q := 293) (i := 88) (v := .ref 125) rfl rfl (by decide) rfl rfl ?_
      refine jx_ld (pc_q := 295) (l_q := L) (st_q := [.int (i32 (b4)), .ref 125, .int (i32 (4)), .ref 66]) rfl (jl_iload gL_4) ?_
      refine jx_ld (pc_q := 297) (l_q := L) (st_q := [.int (i32 (i)), .int (i32 (b4)), .ref 125, .int (i32 (4)), .ref 66]) rfl (jl_iload gL_5) ?_
      refine jx_add (pc_q := 298) rfl rfl ?_
      have b524 : (-2147483648 : Int) ≤ Ax 58 ((b4 + i)).toNat ∧ Ax 58 ((b4 + i)).toNat ≤ 2147483647 := hWx.2 58 _
      refine jr_ldv (pc_q := 299) (i := 58) (m := 320) (z := (b4 + i)) (y := Ax 58 ((b4 + i)).toNat) rfl (by decide) rfl (by decide) (by omega) (by omega) rfl (show Ax 58 ((b4 + i)).toNat = Ax 58 ((b4 + i)).toNat from rfl) ?_
      refine jx_ld (pc_q := 300) (l_q := L) (st_q := [.int (i32 (lf)), .int (i32 (Ax 58 ((b4 + i)).toNat)), .int (i32 (4)), .ref 66]) rfl (jl_iloadn gL_3) ?_
      refine jx_vr (pc_q := 303) (as := [.int (i32 (4)), .int (i32 (Ax 58 ((b4 + i)).toNat)), .int (i32 (lf))]) (st := []) rfl rfl rfl rfl ⟨rfl, rfl, Nat.le_of_ble_eq_true rfl⟩ rfl rfl (c_way (dd := d) (hd := by omega) (hW := hWx) (fn := 4) (to := Ax 58 ((b4 + i)).toNat) (fr := lf) (st := st1) (e_st := show Gx 70 = st1 from (ex_st1)) (lg := lg1) (e_lg := show Gx 79 = lg1 from (ex_lg1))  (h_fn := ⟨(by decide), (by decide)⟩) (h_to := ⟨(Int.le_trans (by decide : (-2147483648 : Int) ≤ -2147483648) b524.1), (Int.le_trans b524.2 (by decide : (2147483647 : Int) ≤ 2147483647))⟩) (h_fr := ⟨(Int.le_trans (by decide : (-2147483648 : Int) ≤ -2147483648) rx_lf.1), (Int.le_trans rx_lf.2 (by decide : (2147483647 : Int) ≤ 2147483647))⟩)  (p_0 := by omega) (p_1 := by omega)) (fun o V_q hq => ?_)
      obtain ⟨G525, A526, st2_527, lg2_528, rfl, rfl, hW529, hF530, hQ531, e532, e533, p534, p535, p536, p537, p538, p539, -⟩ := hq
      have hF541 := Fr_tr hFx hF530 (Fr_sub (by decide)) (Fr_sub (by decide))
      have hC542 := Fx_tr hCx hQ531 (by omega)
      have hAl543 := Fx_f hAlx hF530 (by decide)
      have hBp544 := Fx_f hBpx hF530 (by decide)
      have sf545 := FA_fr (hF530.2 51 rfl) iv_21
      have sf546 := SA_fr (hF530.2 13 rfl) iv_22
      have sf547 : PE 58 (La) (b4) (T0 18 (n).toNat) A526 := PE_fr (hF530.2 58 rfl) iv_28
      have bst2_527 : (-2147483648 : Int) ≤ st2_527 ∧ st2_527 ≤ 2147483647 := e532 ▸ hW529.1 70
      have blg2_528 : (0 : Int) ≤ lg2_528 ∧ lg2_528 ≤ 1 := e533 ▸ hW529.1 79
      refine .inl ⟨rfl, ?_⟩
      have sf548 : Cd (lg2_528 = 0 ∧ lb1 < 19999) (gA1 T0 A526 (La) F Sn nw (n) ((T0 18 (n).toNat).toNat) (st) (ga) (lb + 2) (lb1)) := Cd_mk (fun hC => gA1_mv (Cg_fx (l0 := lb + 2) (l1 := lb1) hQ531 (Fx_f (w := lb1 + 1) Fx_rf hF530 (by decide)) (by omega)) (by omega) (Cd_ap iv_30 (by omega)))
      have sf549 : Cd (lg2_528 = 0 ∧ lb1 < 19999) (ST A526 (ga) (gb) (15) (22)) := Cd_mk (fun hC => ST_mv (Cg_fx (l0 := 0) (l1 := 0) hQ531 (Fx_f (w := 0 + 1) Fx_rf hF530 (by decide)) (by omega)) (by omega) (Cd_ap iv_31 (by omega)))
      have sf550 : Cd (lg2_528 = 0 ∧ lb1 < 19999) (gA2 T0 A526 (n) ((T0 18 (n).toNat).toNat) (gb) (gc)) := Cd_mk (fun hC => gA2_mv (Cg_fx (l0 := 0) (l1 := 0) hQ531 (Fx_f (w := 0 + 1) Fx_rf hF530 (by decide)) (by omega)) (by omega) (Cd_ap iv_32 (by omega)))
      have sf551 : Cd (lg2_528 = 0 ∧ lb1 < 19999) (ST A526 (gc) (gd) (15) (25)) := Cd_mk (fun hC => ST_mv (Cg_fx (l0 := 0) (l1 := 0) hQ531 (Fx_f (w := 0 + 1) Fx_rf hF530 (by decide)) (by omega)) (by omega) (Cd_ap iv_33 (by omega)))
      have sf552 : Cd (lg2_528 = 0 ∧ lb1 < 19999) (gA3 T0 A526 (La) (lf) (n) ((i).toNat) (gd) (st1)) := Cd_mk (fun hC => gA3_mv (Cg_fx (l0 := 0) (l1 := 0) hQ531 (Fx_f (w := 0 + 1) Fx_rf hF530 (by decide)) (by omega)) (by omega) (Cd_ap iv_34 (by omega)))
      have hBo553 : Cd (lg2_528 = 0 ∧ lb1 < 19999) (Fx [50] (lb + 1) A A526) := Cd_mk (fun hC => Fx_f (Cd_ap hBox (by omega)) hF530 (by decide))
      refine jx_ld (pc_q := 304) (l_q := L) (st_q := [.ref 66]) rfl (jl_aloadn gL_0) ?_
      refine jx_ar (pc_q := 306) (st_q := [.int (i32 (7)), .ref 66]) rfl rfl rfl rfl ?_
      refine jx_ld (pc_q := 307) (l_q := L) (st_q := [.ref 66, .int (i32 (7)), .ref 66]) rfl (jl_aloadn gL_0) ?_
      refine jr_get (pc_q := 310) (i := 42) (v := .ref 92) rfl rfl (by decide) rfl rfl ?_
      refine jx_ld (pc_q := 311) (l_q := L) (st_q := [.int (i32 (n)), .ref 92, .int (i32 (7)), .ref 66]) rfl (jl_iloadn gL_1) ?_
      have b554 : (-2147483648 : Int) ≤ T0 25 (n).toNat ∧ T0 25 (n).toNat ≤ 2147483647 := hWT.2 25 _
      refine jr_ldv (pc_q := 312) (i := 25) (m := 7000) (z := n) (y := T0 25 (n).toNat) rfl (by decide) rfl (by decide) (by omega) (by omega) rfl (show A526 25 (n).toNat = T0 25 (n).toNat from (congrFun ((hF530.2 25 rfl).trans ((hFx.2 25 rfl).trans (p_0 25 rfl))) _)) ?_
      refine jx_ar (pc_q := 313) (st_q := [.int (i32 (2)), .int (i32 (T0 25 (n).toNat)), .int (i32 (7)), .ref 66]) rfl rfl rfl rfl ?_
      refine jx_ld (pc_q := 315) (l_q := L) (st_q := [.int (i32 (i)), .int (i32 (2)), .int (i32 (T0 25 (n).toNat)), .int (i32 (7)), .ref 66]) rfl (jl_iload gL_5) ?_
      refine jx_mul (pc_q := 316) rfl rfl ?_
      refine jx_add (pc_q := 317) rfl rfl ?_
      refine jx_vr (pc_q := 320) (as := [.int (i32 (7)), .int (i32 ((T0 25 (n).toNat + (2 * i))))]) (st := []) rfl rfl rfl rfl ⟨rfl, rfl, Nat.le_of_ble_eq_true rfl⟩ rfl rfl (c_emit (dd := d) (hd := by omega) (hW := hW529) (fn := 7) (v := (T0 25 (n).toNat + (2 * i))) (st := st2_527) (e_st := show G525 70 = st2_527 from (e532)) (lg := lg2_528) (e_lg := show G525 79 = lg2_528 from (e533))  (h_fn := ⟨(by decide), (by decide)⟩) (h_v := ⟨(by omega), (by omega)⟩)  (p_0 := by omega) (p_1 := by omega)) (fun o V_q hq => ?_)
      obtain ⟨G555, A556, st2_557, lg2_558, rfl, rfl, hW559, hF560, hQ561, e562, e563, p564, p565, p566, p567, p568, p569, -⟩ := hq
      have hF571 := Fr_tr hF541 hF560 (Fr_sub (by decide)) (Fr_sub (by decide))
      have hC572 := Fx_tr hC542 hQ561 (by omega)
      have hAl573 := Fx_f hAl543 hF560 (by decide)
      have hBp574 := Fx_f hBp544 hF560 (by decide)
      have sf575 := FA_fr (hF560.2 51 rfl) sf545
      have sf576 := SA_fr (hF560.2 13 rfl) sf546
      have sf577 : PE 58 (La) (b4) (T0 18 (n).toNat) A556 := PE_fr (hF560.2 58 rfl) sf547
      have bst2_557 : (-2147483648 : Int) ≤ st2_557 ∧ st2_557 ≤ 2147483647 := e562 ▸ hW559.1 70
      have blg2_558 : (0 : Int) ≤ lg2_558 ∧ lg2_558 ≤ 1 := e563 ▸ hW559.1 79
      refine .inl ⟨rfl, ?_⟩
      have sf578 : Cd (lg2_558 = 0 ∧ lb1 < 19999) (gA1 T0 A556 (La) F Sn nw (n) ((T0 18 (n).toNat).toNat) (st) (ga) (lb + 2) (lb1)) := Cd_mk (fun hC => gA1_mv (Cg_fx (l0 := lb + 2) (l1 := lb1) hQ561 (Fx_f (w := lb1 + 1) Fx_rf hF560 (by decide)) (by omega)) (by omega) (Cd_ap sf548 (by omega)))
      have sf579 : Cd (lg2_558 = 0 ∧ lb1 < 19999) (ST A556 (ga) (gb) (15) (22)) := Cd_mk (fun hC => ST_mv (Cg_fx (l0 := 0) (l1 := 0) hQ561 (Fx_f (w := 0 + 1) Fx_rf hF560 (by decide)) (by omega)) (by omega) (Cd_ap sf549 (by omega)))
      have sf580 : Cd (lg2_558 = 0 ∧ lb1 < 19999) (gA2 T0 A556 (n) ((T0 18 (n).toNat).toNat) (gb) (gc)) := Cd_mk (fun hC => gA2_mv (Cg_fx (l0 := 0) (l1 := 0) hQ561 (Fx_f (w := 0 + 1) Fx_rf hF560 (by decide)) (by omega)) (by omega) (Cd_ap sf550 (by omega)))
      have sf581 : Cd (lg2_558 = 0 ∧ lb1 < 19999) (ST A556 (gc) (gd) (15) (25)) := Cd_mk (fun hC => ST_mv (Cg_fx (l0 := 0) (l1 := 0) hQ561 (Fx_f (w := 0 + 1) Fx_rf hF560 (by decide)) (by omega)) (by omega) (Cd_ap sf551 (by omega)))
      have sf582 : Cd (lg2_558 = 0 ∧ lb1 < 19999) (gA3 T0 A556 (La) (lf) (n) ((i).toNat) (gd) (st1)) := Cd_mk (fun hC => gA3_mv (Cg_fx (l0 := 0) (l1 := 0) hQ561 (Fx_f (w := 0 + 1) Fx_rf hF560 (by decide)) (by omega)) (by omega) (Cd_ap sf552 (by omega)))
      have sf583 : Cd (lg2_558 = 0 ∧ lb1 < 19999) (WY A556 (st1) (st2_527) (4) (Ax 58 ((b4 + i)).toNat) (lf)) := Cd_mk (fun hC => WY_mv (Cg_fx (l0 := 0) (l1 := 0) hQ561 (Fx_f (w := 0 + 1) Fx_rf hF560 (by decide)) (by omega)) (by omega) (Cd_ap p539 (by omega)))
      have hBo584 : Cd (lg2_558 = 0 ∧ lb1 < 19999) (Fx [50] (lb + 1) A A556) := Cd_mk (fun hC => Fx_f (Cd_ap hBo553 (by omega)) hF560 (by decide))
      refine jx_ld (pc_q := 321) (l_q := L) (st_q := [.ref 66]) rfl (jl_aloadn gL_0) ?_
      refine jr_get (pc_q := 324) (i := 35) (v := .ref 85) rfl rfl (by decide) rfl rfl ?_
      refine jx_ld (pc_q := 326) (l_q := L) (st_q := [.int (i32 (c)), .ref 85]) rfl (jl_iload gL_6) ?_
      have b585 : (-2147483648 : Int) ≤ T0 18 (c).toNat ∧ T0 18 (c).toNat ≤ 2147483647 := hWT.2 18 _
      refine jr_ldv (pc_q := 327) (i := 18) (m := 7000) (z := c) (y := T0 18 (c).toNat) rfl (by decide) rfl (by decide) (by omega) (by omega) rfl (show A556 18 (c).toNat = T0 18 (c).toNat from (congrFun ((hF560.2 18 rfl).trans ((hF530.2 18 rfl).trans ((hFx.2 18 rfl).trans (p_0 18 rfl)))) _)) ?_
      refine jx_if_le (pc_q := 330) (tg := 349) rfl rfl rfl (Int.le_trans (by decide : (-2147483648 : Int) ≤ -2147483648) b585.1) (Int.le_trans b585.2 (by decide : (2147483647 : Int) ≤ 2147483647)) (fun h586 => ?_) (fun h586 => ?_)
      · have _q := h586
        refine jx_ld (pc_q := 350) (l_q := L) (st_q := [.ref 66]) rfl (jl_aloadn gL_0) ?_
        refine jx_ld (pc_q := 351) (l_q := L) (st_q := [.ref 66, .ref 66]) rfl (jl_aloadn gL_0) ?_
        refine jr_get (pc_q := 354) (i := 35) (v := .ref 85) rfl rfl (by decide) rfl rfl ?_
        refine jx_ld (pc_q := 356) (l_q := L) (st_q := [.int (i32 (c)), .ref 85, .ref 66]) rfl (jl_iload gL_6) ?_
        refine jr_ldv (pc_q := 357) (i := 18) (m := 7000) (z := c) (y := T0 18 (c).toNat) rfl (by decide) rfl (by decide) (by omega) (by omega) rfl (show A556 18 (c).toNat = T0 18 (c).toNat from (congrFun ((hF560.2 18 rfl).trans ((hF530.2 18 rfl).trans ((hFx.2 18 rfl).trans (p_0 18 rfl)))) _)) ?_
        refine jx_if_le (pc_q := 360) (tg := 365) rfl rfl rfl (Int.le_trans (by decide : (-2147483648 : Int) ≤ -2147483648) b585.1) (Int.le_trans b585.2 (by decide : (2147483647 : Int) ≤ 2147483647)) (fun h587 => ?_) (fun h587 => ?_)
        · have _q := h587
          refine jx_ar (pc_q := 367) (st_q := [.int (i32 (27)), .ref 66]) rfl rfl rfl rfl ?_
          refine jx_vr (pc_q := 370) (as := [.int (i32 (27))]) (st := []) rfl rfl rfl rfl ⟨rfl, rfl, Nat.le_of_ble_eq_true rfl⟩ rfl rfl (c_op (dd := d) (hd := by omega) (hW := hW559) (oo := 27) (st := st2_557) (e_st := show G555 70 = st2_557 from (e562)) (lg := lg2_558) (e_lg := show G555 79 = lg2_558 from (e563))  (h_oo := ⟨(by decide), (by decide)⟩)  (p_0 := by omega) (p_1 := by omega)) (fun o V_q hq => ?_)
          obtain ⟨G588, A589, st2_590, lg2_591, rfl, rfl, hW592, hF593, hQ594, e595, e596, p597, p598, p599, p600, p601, p602, -⟩ := hq
          have hF604 := Fr_tr hF571 hF593 (Fr_sub (by decide)) (Fr_sub (by decide))
          have hC605 := Fx_tr hC572 hQ594 (by omega)
          have hAl606 := Fx_f hAl573 hF593 (by decide)
          have hBp607 := Fx_f hBp574 hF593 (by decide)
          have sf608 := FA_fr (hF593.2 51 rfl) sf575
          have sf609 := SA_fr (hF593.2 13 rfl) sf576
          have sf610 : PE 58 (La) (b4) (T0 18 (n).toNat) A589 := PE_fr (hF593.2 58 rfl) sf577
          have bst2_590 : (-2147483648 : Int) ≤ st2_590 ∧ st2_590 ≤ 2147483647 := e595 ▸ hW592.1 70
          have blg2_591 : (0 : Int) ≤ lg2_591 ∧ lg2_591 ≤ 1 := e596 ▸ hW592.1 79
          refine .inl ⟨rfl, ?_⟩
          have sf611 : Cd (lg2_591 = 0 ∧ lb1 < 19999) (gA1 T0 A589 (La) F Sn nw (n) ((T0 18 (n).toNat).toNat) (st) (ga) (lb + 2) (lb1)) := Cd_mk (fun hC => gA1_mv (Cg_fx (l0 := lb + 2) (l1 := lb1) hQ594 (Fx_f (w := lb1 + 1) Fx_rf hF593 (by decide)) (by omega)) (by omega) (Cd_ap sf578 (by omega)))
          have sf612 : Cd (lg2_591 = 0 ∧ lb1 < 19999) (ST A589 (ga) (gb) (15) (22)) := Cd_mk (fun hC => ST_mv (Cg_fx (l0 := 0) (l1 := 0) hQ594 (Fx_f (w := 0 + 1) Fx_rf hF593 (by decide)) (by omega)) (by omega) (Cd_ap sf579 (by omega)))
          have sf613 : Cd (lg2_591 = 0 ∧ lb1 < 19999) (gA2 T0 A589 (n) ((T0 18 (n).toNat).toNat) (gb) (gc)) := Cd_mk (fun hC => gA2_mv (Cg_fx (l0 := 0) (l1 := 0) hQ594 (Fx_f (w := 0 + 1) Fx_rf hF593 (by decide)) (by omega)) (by omega) (Cd_ap sf580 (by omega)))
          have sf614 : Cd (lg2_591 = 0 ∧ lb1 < 19999) (ST A589 (gc) (gd) (15) (25)) := Cd_mk (fun hC => ST_mv (Cg_fx (l0 := 0) (l1 := 0) hQ594 (Fx_f (w := 0 + 1) Fx_rf hF593 (by decide)) (by omega)) (by omega) (Cd_ap sf581 (by omega)))
          have sf615 : Cd (lg2_591 = 0 ∧ lb1 < 19999) (gA3 T0 A589 (La) (lf) (n) ((i).toNat) (gd) (st1)) := Cd_mk (fun hC => gA3_mv (Cg_fx (l0 := 0) (l1 := 0) hQ594 (Fx_f (w := 0 + 1) Fx_rf hF593 (by decide)) (by omega)) (by omega) (Cd_ap sf582 (by omega)))
          have sf616 : Cd (lg2_591 = 0 ∧ lb1 < 19999) (WY A589 (st1) (st2_527) (4) (Ax 58 ((b4 + i)).toNat) (lf)) := Cd_mk (fun hC => WY_mv (Cg_fx (l0 := 0) (l1 := 0) hQ594 (Fx_f (w := 0 + 1) Fx_rf hF593 (by decide)) (by omega)) (by omega) (Cd_ap sf583 (by omega)))
          have sf617 : Cd (lg2_591 = 0 ∧ lb1 < 19999) (ST A589 (st2_527) (st2_557) (7) (T0 25 (n).toNat + (2 * i))) := Cd_mk (fun hC => ST_mv (Cg_fx (l0 := 0) (l1 := 0) hQ594 (Fx_f (w := 0 + 1) Fx_rf hF593 (by decide)) (by omega)) (by omega) (Cd_ap p569 (by omega)))
          have hBo618 : Cd (lg2_591 = 0 ∧ lb1 < 19999) (Fx [50] (lb + 1) A A589) := Cd_mk (fun hC => Fx_f (Cd_ap hBo584 (by omega)) hF593 (by decide))
          refine jx_inc (pc_q := 373) (l_q := jSto1 L 5 (.int (i32 ((i + (1)))))) (x := i) rfl gL_5 (by decide) rfl rfl ?_
          obtain ⟨L619, eL619⟩ : ∃ q, q = jSto1 L 5 (.int (i32 ((i + (1))))) := ⟨_, rfl⟩
          rw [← eL619]
          have gL619_0 : jGet L619 0 = some (.ref 66) := eL619 ▸ jg_ne (by decide) gL_0 rfl
          have gL619_1 : jGet L619 1 = some (.int (i32 (n))) := eL619 ▸ jg_ne (by decide) gL_1 rfl
          have gL619_2 : jGet L619 2 = some (.int (i32 (le))) := eL619 ▸ jg_ne (by decide) gL_2 rfl
          have gL619_3 : jGet L619 3 = some (.int (i32 (lf))) := eL619 ▸ jg_ne (by decide) gL_3 rfl
          have gL619_4 : jGet L619 4 = some (.int (i32 (b4))) := eL619 ▸ jg_ne (by decide) gL_4 rfl
          have gL619_6 : jGet L619 6 = some (.int (i32 (c))) := eL619 ▸ jg_ne (by decide) gL_6 rfl
          have gL619_5 : jGet L619 5 = some (.int (i32 ((i + (1))))) := eL619 ▸ jg_eq
          refine jx_ld (pc_q := 374) (l_q := L619) (st_q := [.ref 66]) rfl (jl_aloadn gL619_0) ?_
          refine jr_get (pc_q := 377) (i := 39) (v := .ref 89) rfl rfl (by decide) rfl rfl ?_
          refine jx_ld (pc_q := 379) (l_q := L619) (st_q := [.int (i32 (c)), .ref 89]) rfl (jl_iload gL619_6) ?_
          have b620 : (-2147483648 : Int) ≤ T0 22 (c).toNat ∧ T0 22 (c).toNat ≤ 2147483647 := hWT.2 22 _
          refine jr_ldv (pc_q := 380) (i := 22) (m := 7000) (z := c) (y := T0 22 (c).toNat) rfl (by decide) rfl (by decide) (by omega) (by omega) rfl (show A589 22 (c).toNat = T0 22 (c).toNat from (congrFun ((hF593.2 22 rfl).trans ((hF560.2 22 rfl).trans ((hF530.2 22 rfl).trans ((hFx.2 22 rfl).trans (p_0 22 rfl))))) _)) ?_
          refine jx_ld (pc_q := 382) (l_q := jSto1 L619 6 (.int (i32 (T0 22 (c).toNat)))) (st_q := []) rfl rfl ?_
          obtain ⟨L621, eL621⟩ : ∃ q, q = jSto1 L619 6 (.int (i32 (T0 22 (c).toNat))) := ⟨_, rfl⟩
          rw [← eL621]
          have gL621_0 : jGet L621 0 = some (.ref 66) := eL621 ▸ jg_ne (by decide) gL619_0 rfl
          have gL621_1 : jGet L621 1 = some (.int (i32 (n))) := eL621 ▸ jg_ne (by decide) gL619_1 rfl
          have gL621_2 : jGet L621 2 = some (.int (i32 (le))) := eL621 ▸ jg_ne (by decide) gL619_2 rfl
          have gL621_3 : jGet L621 3 = some (.int (i32 (lf))) := eL621 ▸ jg_ne (by decide) gL619_3 rfl
          have gL621_4 : jGet L621 4 = some (.int (i32 (b4))) := eL621 ▸ jg_ne (by decide) gL619_4 rfl
          have gL621_5 : jGet L621 5 = some (.int (i32 ((i + (1))))) := eL621 ▸ jg_ne (by decide) gL619_5 rfl
          have gL621_6 : jGet L621 6 = some (.int (i32 (T0 22 (c).toNat))) := eL621 ▸ jg_eq
          refine jx_go (tg := 282) rfl rfl ?_
          exact ih282 _ (hmt) L621 G588 A589 (le) (lf) (b4) ((i + (1))) (T0 22 (c).toNat) (st2_590) (lg2_591) (lb1) (fw1) (m1) (t1) (ga) (gb) (gc) (gd) (La) rfl gL621_0 gL621_1 gL621_2 gL621_3 gL621_4 gL621_5 gL621_6 hW592 hF604 hC605 hAl606 hBp607 (Cd_mk (fun hC => Cd_ap hBo618 (by omega))) ((e595)) ((e596)) (((hF593.1 77 rfl).trans ((hF560.1 77 rfl).trans ((hF530.1 77 rfl).trans (ex_lb1))))) ((congrFun ((hF593.2 51 rfl).trans ((hF560.2 51 rfl).trans (hF530.2 51 rfl))) _).trans (ex_fw1)) (((hF593.1 81 rfl).trans ((hF560.1 81 rfl).trans ((hF530.1 81 rfl).trans (fx_81))))) (((hF593.1 89 rfl).trans ((hF560.1 89 rfl).trans ((hF530.1 89 rfl).trans (fx_89))))) (by omega) (by omega) (by omega) (by omega) (by omega) (by omega) (by omega) (by omega) (by omega) (by omega) ((Cd_mk (fun hC => by have := Cd_ap iv_5 (by omega); omega))) (by omega) (by omega) (by omega) ((Cd_mk (fun hC => (by have hr := Cd_ap iv_9 (by omega); omega)))) (by omega) (by omega) ((Cd_mk (fun hC => (by have hr := Cd_ap iv_12 (by omega); omega)))) (by omega) (by omega) (by omega) (by omega) (by omega) (by omega) (by omega) (by omega) (sf608) (sf609) ((hnx _ (by omega))) (by omega) (by omega) (by omega) (by omega) (sf610) (iv_29) ((Cd_mk (fun hC => (Cd_ap sf611 (by omega))))) ((Cd_mk (fun hC => (Cd_ap sf612 (by omega))))) ((Cd_mk (fun hC => (Cd_ap sf613 (by omega))))) ((Cd_mk (fun hC => (Cd_ap sf614 (by omega))))) ((Cd_mk (fun hC => (gA3_nx (by omega) (Cd_ap sf615 (by omega)) hcx hla (Cd_ap sf616 (by omega)) (al3_z (by omega) (Cd_ap sf617 (by omega)) (Cd_ap p602 (by omega)) (by omega))))))
        · have _q := h587
          exfalso
          omega
      · have _q := h586
        have _q : True := trivial
        refine jx_ld (pc_q := 331) (l_q := L) (st_q := [.ref 66]) rfl (jl_aloadn gL_0) ?_
        refine jx_ar (pc_q := 333) (st_q := [.int (i32 (7)), .ref 66]) rfl rfl rfl rfl ?_
        refine jx_ld (pc_q := 334) (l_q := L) (st_q := [.ref 66, .int (i32 (7)), .ref 66]) rfl (jl_aloadn gL_0) ?_
        refine jr_get (pc_q := 337) (i := 42) (v := .ref 92) rfl rfl (by decide) rfl rfl ?_
        refine jx_ld (pc_q := 338) (l_q := L) (st_q := [.int (i32 (n)), .ref 92, .int (i32 (7)), .ref 66]) rfl (jl_iloadn gL_1) ?_
        refine jr_ldv (pc_q := 339) (i := 25) (m := 7000) (z := n) (y := T0 25 (n).toNat) rfl (by decide) rfl (by decide) (by omega) (by omega) rfl (show A556 25 (n).toNat = T0 25 (n).toNat from (congrFun ((hF560.2 25 rfl).trans ((hF530.2 25 rfl).trans ((hFx.2 25 rfl).trans (p_0 25 rfl)))) _)) ?_
        refine jx_ar (pc_q := 340) (st_q := [.int (i32 (2)), .int (i32 (T0 25 (n).toNat)), .int (i32 (7)), .ref 66]) rfl rfl rfl rfl ?_
        refine jx_ld (pc_q := 342) (l_q := L) (st_q := [.int (i32 (i)), .int (i32 (2)), .int (i32 (T0 25 (n).toNat)), .int (i32 (7)), .ref 66]) rfl (jl_iload gL_5) ?_
        refine jx_mul (pc_q := 343) rfl rfl ?_
        refine jx_add (pc_q := 344) rfl rfl ?_
        refine jx_ar (pc_q := 345) (st_q := [.int (i32 (1)), .int (i32 ((T0 25 (n).toNat + (2 * i)))), .int (i32 (7)), .ref 66]) rfl rfl rfl rfl ?_
        refine jx_add (pc_q := 346) rfl rfl ?_
        refine jx_vr (pc_q := 349) (as := [.int (i32 (7)), .int (i32 (((T0 25 (n).toNat + (2 * i)) + 1)))]) (st := []) rfl rfl rfl rfl ⟨rfl, rfl, Nat.le_of_ble_eq_true rfl⟩ rfl rfl (c_emit (dd := d) (hd := by omega) (hW := hW559) (fn := 7) (v := ((T0 25 (n).toNat + (2 * i)) + 1)) (st := st2_557) (e_st := show G555 70 = st2_557 from (e562)) (lg := lg2_558) (e_lg := show G555 79 = lg2_558 from (e563))  (h_fn := ⟨(by decide), (by decide)⟩) (h_v := ⟨(by omega), (by omega)⟩)  (p_0 := by omega) (p_1 := by omega)) (fun o V_q hq => ?_)
        obtain ⟨G622, A623, st2_624, lg2_625, rfl, rfl, hW626, hF627, hQ628, e629, e630, p631, p632, p633, p634, p635, p636, -⟩ := hq
        have hF638 := Fr_tr hF571 hF627 (Fr_sub (by decide)) (Fr_sub (by decide))
        have hC639 := Fx_tr hC572 hQ628 (by omega)
        have hAl640 := Fx_f hAl573 hF627 (by decide)
        have hBp641 := Fx_f hBp574 hF627 (by decide)
        have sf642 := FA_fr (hF627.2 51 rfl) sf575
        have sf643 := SA_fr (hF627.2 13 rfl) sf576
        have sf644 : PE 58 (La) (b4) (T0 18 (n).toNat) A623 := PE_fr (hF627.2 58 rfl) sf577
        have bst2_624 : (-2147483648 : Int) ≤ st2_624 ∧ st2_624 ≤ 2147483647 := e629 ▸ hW626.1 70
        have blg2_625 : (0 : Int) ≤ lg2_625 ∧ lg2_625 ≤ 1 := e630 ▸ hW626.1 79
        refine .inl ⟨rfl, ?_⟩
        have sf645 : Cd (lg2_625 = 0 ∧ lb1 < 19999) (gA1 T0 A623 (La) F Sn nw (n) ((T0 18 (n).toNat).toNat) (st) (ga) (lb + 2) (lb1)) := Cd_mk (fun hC => gA1_mv (Cg_fx (l0 := lb + 2) (l1 := lb1) hQ628 (Fx_f (w := lb1 + 1) Fx_rf hF627 (by decide)) (by omega)) (by omega) (Cd_ap sf578 (by omega)))
        have sf646 : Cd (lg2_625 = 0 ∧ lb1 < 19999) (ST A623 (ga) (gb) (15) (22)) := Cd_mk (fun hC => ST_mv (Cg_fx (l0 := 0) (l1 := 0) hQ628 (Fx_f (w := 0 + 1) Fx_rf hF627 (by decide)) (by omega)) (by omega) (Cd_ap sf579 (by omega)))
        have sf647 : Cd (lg2_625 = 0 ∧ lb1 < 19999) (gA2 T0 A623 (n) ((T0 18 (n).toNat).toNat) (gb) (gc)) := Cd_mk (fun hC => gA2_mv (Cg_fx (l0 := 0) (l1 := 0) hQ628 (Fx_f (w := 0 + 1) Fx_rf hF627 (by decide)) (by omega)) (by omega) (Cd_ap sf580 (by omega)))
        have sf648 : Cd (lg2_625 = 0 ∧ lb1 < 19999) (ST A623 (gc) (gd) (15) (25)) := Cd_mk (fun hC => ST_mv (Cg_fx (l0 := 0) (l1 := 0) hQ628 (Fx_f (w := 0 + 1) Fx_rf hF627 (by decide)) (by omega)) (by omega) (Cd_ap sf581 (by omega)))
        have sf649 : Cd (lg2_625 = 0 ∧ lb1 < 19999) (gA3 T0 A623 (La) (lf) (n) ((i).toNat) (gd) (st1)) := Cd_mk (fun hC => gA3_mv (Cg_fx (l0 := 0) (l1 := 0) hQ628 (Fx_f (w := 0 + 1) Fx_rf hF627 (by decide)) (by omega)) (by omega) (Cd_ap sf582 (by omega)))
        have sf650 : Cd (lg2_625 = 0 ∧ lb1 < 19999) (WY A623 (st1) (st2_527) (4) (Ax 58 ((b4 + i)).toNat) (lf)) := Cd_mk (fun hC => WY_mv (Cg_fx (l0 := 0) (l1 := 0) hQ628 (Fx_f (w := 0 + 1) Fx_rf hF627 (by decide)) (by omega)) (by omega) (Cd_ap sf583 (by omega)))
        have sf651 : Cd (lg2_625 = 0 ∧ lb1 < 19999) (ST A623 (st2_527) (st2_557) (7) (T0 25 (n).toNat + (2 * i))) := Cd_mk (fun hC => ST_mv (Cg_fx (l0 := 0) (l1 := 0) hQ628 (Fx_f (w := 0 + 1) Fx_rf hF627 (by decide)) (by omega)) (by omega) (Cd_ap p569 (by omega)))
        have hBo652 : Cd (lg2_625 = 0 ∧ lb1 < 19999) (Fx [50] (lb + 1) A A623) := Cd_mk (fun hC => Fx_f (Cd_ap hBo584 (by omega)) hF627 (by decide))
        refine jx_ld (pc_q := 350) (l_q := L) (st_q := [.ref 66]) rfl (jl_aloadn gL_0) ?_
        refine jx_ld (pc_q := 351) (l_q := L) (st_q := [.ref 66, .ref 66]) rfl (jl_aloadn gL_0) ?_
        refine jr_get (pc_q := 354) (i := 35) (v := .ref 85) rfl rfl (by decide) rfl rfl ?_
        refine jx_ld (pc_q := 356) (l_q := L) (st_q := [.int (i32 (c)), .ref 85, .ref 66]) rfl (jl_iload gL_6) ?_
        refine jr_ldv (pc_q := 357) (i := 18) (m := 7000) (z := c) (y := T0 18 (c).toNat) rfl (by decide) rfl (by decide) (by omega) (by omega) rfl (show A623 18 (c).toNat = T0 18 (c).toNat from (congrFun ((hF627.2 18 rfl).trans ((hF560.2 18 rfl).trans ((hF530.2 18 rfl).trans ((hFx.2 18 rfl).trans (p_0 18 rfl))))) _)) ?_
        refine jx_if_le (pc_q := 360) (tg := 365) rfl rfl rfl (Int.le_trans (by decide : (-2147483648 : Int) ≤ -2147483648) b585.1) (Int.le_trans b585.2 (by decide : (2147483647 : Int) ≤ 2147483647)) (fun h653 => ?_) (fun h653 => ?_)
        · have _q := h653
          exfalso
          omega
        · have _q := h653
          refine jx_ar (pc_q := 362) (st_q := [.int (i32 (26)), .ref 66]) rfl rfl rfl rfl ?_
          refine jx_go (tg := 367) rfl rfl ?_
          refine jx_vr (pc_q := 370) (as := [.int (i32 (26))]) (st := []) rfl rfl rfl rfl ⟨rfl, rfl, Nat.le_of_ble_eq_true rfl⟩ rfl rfl (c_op (dd := d) (hd := by omega) (hW := hW626) (oo := 26) (st := st2_624) (e_st := show G622 70 = st2_624 from (e629)) (lg := lg2_625) (e_lg := show G622 79 = lg2_625 from (e630))  (h_oo := ⟨(by decide), (by decide)⟩)  (p_0 := by omega) (p_1 := by omega)) (fun o V_q hq => ?_)
          obtain ⟨G654, A655, st2_656, lg2_657, rfl, rfl, hW658, hF659, hQ660, e661, e662, p663, p664, p665, p666, p667, p668, -⟩ := hq
          have hF670 := Fr_tr hF638 hF659 (Fr_sub (by decide)) (Fr_sub (by decide))
          have hC671 := Fx_tr hC639 hQ660 (by omega)
          have hAl672 := Fx_f hAl640 hF659 (by decide)
          have hBp673 := Fx_f hBp641 hF659 (by decide)
          have sf674 := FA_fr (hF659.2 51 rfl) sf642
          have sf675 := SA_fr (hF659.2 13 rfl) sf643
          have sf676 : PE 58 (La) (b4) (T0 18 (n).toNat) A655 := PE_fr (hF659.2 58 rfl) sf644
          have bst2_656 : (-2147483648 : Int) ≤ st2_656 ∧ st2_656 ≤ 2147483647 := e661 ▸ hW658.1 70
          have blg2_657 : (0 : Int) ≤ lg2_657 ∧ lg2_657 ≤ 1 := e662 ▸ hW658.1 79
          refine .inl ⟨rfl, ?_⟩
          have sf677 : Cd (lg2_657 = 0 ∧ lb1 < 19999) (gA1 T0 A655 (La) F Sn nw (n) ((T0 18 (n).toNat).toNat) (st) (ga) (lb + 2) (lb1)) := Cd_mk (fun hC => gA1_mv (Cg_fx (l0 := lb + 2) (l1 := lb1) hQ660 (Fx_f (w := lb1 + 1) Fx_rf hF659 (by decide)) (by omega)) (by omega) (Cd_ap sf645 (by omega)))
          have sf678 : Cd (lg2_657 = 0 ∧ lb1 < 19999) (ST A655 (ga) (gb) (15) (22)) := Cd_mk (fun hC => ST_mv (Cg_fx (l0 := 0) (l1 := 0) hQ660 (Fx_f (w := 0 + 1) Fx_rf hF659 (by decide)) (by omega)) (by omega) (Cd_ap sf646 (by omega)))
          have sf679 : Cd (lg2_657 = 0 ∧ lb1 < 19999) (gA2 T0 A655 (n) ((T0 18 (n).toNat).toNat) (gb) (gc)) := Cd_mk (fun hC => gA2_mv (Cg_fx (l0 := 0) (l1 := 0) hQ660 (Fx_f (w := 0 + 1) Fx_rf hF659 (by decide)) (by omega)) (by omega) (Cd_ap sf647 (by omega)))
          have sf680 : Cd (lg2_657 = 0 ∧ lb1 < 19999) (ST A655 (gc) (gd) (15) (25)) := Cd_mk (fun hC => ST_mv (Cg_fx (l0 := 0) (l1 := 0) hQ660 (Fx_f (w := 0 + 1) Fx_rf hF659 (by decide)) (by omega)) (by omega) (Cd_ap sf648 (by omega)))
          have sf681 : Cd (lg2_657 = 0 ∧ lb1 < 19999) (gA3 T0 A655 (La) (lf) (n) ((i).toNat) (gd) (st1)) := Cd_mk (fun hC => gA3_mv (Cg_fx (l0 := 0) (l1 := 0) hQ660 (Fx_f (w := 0 + 1) Fx_rf hF659 (by decide)) (by omega)) (by omega) (Cd_ap sf649 (by omega)))
          have sf682 : Cd (lg2_657 = 0 ∧ lb1 < 19999) (WY A655 (st1) (st2_527) (4) (Ax 58 ((b4 + i)).toNat) (lf)) := Cd_mk (fun hC => WY_mv (Cg_fx (l0 := 0) (l1 := 0) hQ660 (Fx_f (w := 0 + 1) Fx_rf hF659 (by decide)) (by omega)) (by omega) (Cd_ap sf650 (by omega)))
          have sf683 : Cd (lg2_657 = 0 ∧ lb1 < 19999) (ST A655 (st2_527) (st2_557) (7) (T0 25 (n).toNat + (2 * i))) := Cd_mk (fun hC => ST_mv (Cg_fx (l0 := 0) (l1 := 0) hQ660 (Fx_f (w := 0 + 1) Fx_rf hF659 (by decide)) (by omega)) (by omega) (Cd_ap sf651 (by omega)))
          have sf684 : Cd (lg2_657 = 0 ∧ lb1 < 19999) (ST A655 (st2_557) (st2_624) (7) ((T0 25 (n).toNat + (2 * i)) + 1)) := Cd_mk (fun hC => ST_mv (Cg_fx (l0 := 0) (l1 := 0) hQ660 (Fx_f (w := 0 + 1) Fx_rf hF659 (by decide)) (by omega)) (by omega) (Cd_ap p636 (by omega)))
          have hBo685 : Cd (lg2_657 = 0 ∧ lb1 < 19999) (Fx [50] (lb + 1) A A655) := Cd_mk (fun hC => Fx_f (Cd_ap hBo652 (by omega)) hF659 (by decide))
          refine jx_inc (pc_q := 373) (l_q := jSto1 L 5 (.int (i32 ((i + (1)))))) (x := i) rfl gL_5 (by decide) rfl rfl ?_
          obtain ⟨L686, eL686⟩ : ∃ q, q = jSto1 L 5 (.int (i32 ((i + (1))))) := ⟨_, rfl⟩
          rw [← eL686]
          have gL686_0 : jGet L686 0 = some (.ref 66) := eL686 ▸ jg_ne (by decide) gL_0 rfl
          have gL686_1 : jGet L686 1 = some (.int (i32 (n))) := eL686 ▸ jg_ne (by decide) gL_1 rfl
          have gL686_2 : jGet L686 2 = some (.int (i32 (le))) := eL686 ▸ jg_ne (by decide) gL_2 rfl
          have gL686_3 : jGet L686 3 = some (.int (i32 (lf))) := eL686 ▸ jg_ne (by decide) gL_3 rfl
          have gL686_4 : jGet L686 4 = some (.int (i32 (b4))) := eL686 ▸ jg_ne (by decide) gL_4 rfl
          have gL686_6 : jGet L686 6 = some (.int (i32 (c))) := eL686 ▸ jg_ne (by decide) gL_6 rfl
          have gL686_5 : jGet L686 5 = some (.int (i32 ((i + (1))))) := eL686 ▸ jg_eq
          refine jx_ld (pc_q := 374) (l_q := L686) (st_q := [.ref 66]) rfl (jl_aloadn gL686_0) ?_
          refine jr_get (pc_q := 377) (i := 39) (v := .ref 89) rfl rfl (by decide) rfl rfl ?_
          refine jx_ld (pc_q := 379) (l_q := L686) (st_q := [.int (i32 (c)), .ref 89]) rfl (jl_iload gL686_6) ?_
          have b687 : (-2147483648 : Int) ≤ T0 22 (c).toNat ∧ T0 22 (c).toNat ≤ 2147483647 := hWT.2 22 _
          refine jr_ldv (pc_q := 380) (i := 22) (m := 7000) (z := c) (y := T0 22 (c).toNat) rfl (by decide) rfl (by decide) (by omega) (by omega) rfl (show A655 22 (c).toNat = T0 22 (c).toNat from (congrFun ((hF659.2 22 rfl).trans ((hF627.2 22 rfl).trans ((hF560.2 22 rfl).trans ((hF530.2 22 rfl).trans ((hFx.2 22 rfl).trans (p_0 22 rfl)))))) _)) ?_
          refine jx_ld (pc_q := 382) (l_q := jSto1 L686 6 (.int (i32 (T0 22 (c).toNat)))) (st_q := []) rfl rfl ?_
          obtain ⟨L688, eL688⟩ : ∃ q, q = jSto1 L686 6 (.int (i32 (T0 22 (c).toNat))) := ⟨_, rfl⟩
          rw [← eL688]
          have gL688_0 : jGet L688 0 = some (.ref 66) := eL688 ▸ jg_ne (by decide) gL686_0 rfl
          have gL688_1 : jGet L688 1 = some (.int (i32 (n))) := eL688 ▸ jg_ne (by decide) gL686_1 rfl
          have gL688_2 : jGet L688 2 = some (.int (i32 (le))) := eL688 ▸ jg_ne (by decide) gL686_2 rfl
          have gL688_3 : jGet L688 3 = some (.int (i32 (lf))) := eL688 ▸ jg_ne (by decide) gL686_3 rfl
          have gL688_4 : jGet L688 4 = some (.int (i32 (b4))) := eL688 ▸ jg_ne (by decide) gL686_4 rfl
          have gL688_5 : jGet L688 5 = some (.int (i32 ((i + (1))))) := eL688 ▸ jg_ne (by decide) gL686_5 rfl
          have gL688_6 : jGet L688 6 = some (.int (i32 (T0 22 (c).toNat))) := eL688 ▸ jg_eq
          refine jx_go (tg := 282) rfl rfl ?_
          exact ih282 _ (hmt) L688 G654 A655 (le) (lf) (b4) ((i + (1))) (T0 22 (c).toNat) (st2_656) (lg2_657) (lb1) (fw1) (m1) (t1) (ga) (gb) (gc) (gd) (La) rfl gL688_0 gL688_1 gL688_2 gL688_3 gL688_4 gL688_5 gL688_6 hW658 hF670 hC671 hAl672 hBp673 (Cd_mk (fun hC => Cd_ap hBo685 (by omega))) ((e661)) ((e662)) (((hF659.1 77 rfl).trans ((hF627.1 77 rfl).trans ((hF560.1 77 rfl).trans ((hF530.1 77 rfl).trans (ex_lb1)))))) ((congrFun ((hF659.2 51 rfl).trans ((hF627.2 51 rfl).trans ((hF560.2 51 rfl).trans (hF530.2 51 rfl)))) _).trans (ex_fw1)) (((hF659.1 81 rfl).trans ((hF627.1 81 rfl).trans ((hF560.1 81 rfl).trans ((hF530.1 81 rfl).trans (fx_81)))))) (((hF659.1 89 rfl).trans ((hF627.1 89 rfl).trans ((hF560.1 89 rfl).trans ((hF530.1 89 rfl).trans (fx_89)))))) (by omega) (by omega) (by omega) (by omega) (by omega) (by omega) (by omega) (by omega) (by omega) (by omega) ((Cd_mk (fun hC => by have := Cd_ap iv_5 (by omega); omega))) (by omega) (by omega) (by omega) ((Cd_mk (fun hC => (by have hr := Cd_ap iv_9 (by omega); omega)))) (by omega) (by omega) ((Cd_mk (fun hC => (by have hr := Cd_ap iv_12 (by omega); omega)))) (by omega) (by omega) (by omega) (by omega) (by omega) (by omega) (by omega) (by omega) (sf674) (sf675) ((hnx _ (by omega))) (by omega) (by omega) (by omega) (by omega) (sf676) (iv_29) ((Cd_mk (fun hC => (Cd_ap sf677 (by omega))))) ((Cd_mk (fun hC => (Cd_ap sf678 (by omega))))) ((Cd_mk (fun hC => (Cd_ap sf679 (by omega))))) ((Cd_mk (fun hC => (Cd_ap sf680 (by omega))))) ((Cd_mk (fun hC => (gA3_nx (by omega) (Cd_ap sf681 (by omega)) hcx hla (Cd_ap sf682 (by omega)) (al3_p (by omega) (Cd_ap sf683 (by omega)) (Cd_ap sf684 (by omega)) (Cd_ap p668 (by omega)) (by omega) (by omega))))))
set_option maxRecDepth 20000 in
set_option maxHeartbeats 4000000 in
theorem c_genAlt_at_178 {X : jX} {k : Nat} (hN : GN X k) {d : Nat} {T0 : Nat → Nat → Int} {Q F Sn : Int → Int} {Vs : Nat → Prop} {sb pb : Int} {c0 c1 : jC} {G : Nat → Int} {A : Nat → Nat → Int} {T : jH} {n : Int} {hi s0 s1 fr z D bd : Int} {st lg lb nw al fw : Int} (hd : 2 * k + 63 ≤ d + 1) (hW : Wk G A) (e_st : G 70 = st) (e_lg : G 79 = lg) (e_lb : G 77 = lb) (e_nw : G 81 = nw) (e_al : G 89 = al) (e_fw : A 51 (nw).toNat = fw) (h_n : (-2147483648 : Int) ≤ n ∧ n ≤ 2147483647) (p_0 : TA T0 A) (p_1 : FA F (nw) A) (p_2 : SA T0 Vs Sn A) (p_3 : VW T0 Vs (nw)) (p_4 : 0 ≤ nw) (p_5 : nw + (k : Int) + 1 ≤ 38) (p_6 : 0 ≤ al) (p_7 : al + (k : Int) + 1 ≤ 38) (p_8 : 0 ≤ st) (p_9 : st ≤ 7000) (p_10 : 0 ≤ lb) (p_11 : lb + bd + 7000 - st ≤ 1900000000) (p_12 : hi ≤ 6999) (p_13 : sb ≤ 202) (p_14 : 0 ≤ n) (p_15 : n < hi) (p_16 : 0 ≤ s0) (p_17 : s0 ≤ s1) (p_18 : s1 ≤ sb) (p_19 : 1 ≤ T0 18 (n).toNat) (p_20 : T0 18 (n).toNat ≤ 8) (p_21 : LN2 T0 (wG T0 Vs sb (wP T0 sb pb k Vs)) (T0 18 (n).toNat) (n) (T0 21 (n).toNat) (0) (n + 1) (hi) (s0) (s1) (n + 1) (s0)) (p_22 : VB (Vs) (s0)) (p_23 : (∀ l, CH T0 (T0 21 (n).toNat) l → ∀ c ∈ l, lG T0 (lP T0 k) (fr) (nw) (z) (D) c)) (p_24 : 0 ≤ T0 25 (n).toNat) (p_25 : T0 25 (n).toNat + 2 * T0 18 (n).toNat ≤ 4000) (p_26 : WB (n) (hi) (bd)) (p_27 : 1 ≤ fr) (p_28 : z ≤ 4000) (p_29 : 0 ≤ D) (p_30 : D ≤ 4000) (p_31 : -4000 ≤ fw - D) (p_32 : fw ≤ 0) (p_33 : pb ≤ 24) (p_34 : PV T0 pb) (p_35 : PA Q pb A) : ∀ (m : Nat) (L : jL) (Gx : Nat → Int) (Ax : Nat → Nat → Int) (le lf b4 i c st1 lg1 lb1 fw1 gm gt ga gb : Int) (La : Int → Int), (hi - gm).toNat = m → jGet L 0 = some (.ref 66) → jGet L 1 = some (.int (i32 (n))) → jGet L 2 = some (.int (i32 le)) → jGet L 3 = some (.int (i32 lf)) → jGet L 4 = some (.int (i32 b4)) → jGet L 5 = some (.int (i32 i)) → jGet L 6 = some (.int (i32 c)) → Wk Gx Ax → Fr [70, 77, 79, 81, 89] [13, 44, 45, 46, 47, 50, 51, 56, 57, 58] G A Gx Ax → Fx [44, 45, 46, 47] (st) A Ax → Fx [58] (8 * al) A Ax → Fx [56, 57] (8 * nw) A Ax → Cd (lg1 = 0 ∧ lb1 < 19999) (Fx [50] (lb + 1) A Ax) → Gx 70 = st1 → Gx 79 = lg1 → Gx 77 = lb1 → Ax 51 (nw).toNat = fw1 → Gx 81 = nw → Gx 89 = (al + 1) → ((-2147483648 : Int) ≤ le ∧ le ≤ 2147483647) → ((-2147483648 : Int) ≤ lf ∧ lf ≤ 2147483647) → ((-2147483648 : Int) ≤ b4 ∧ b4 ≤ 2147483647) → ((-2147483648 : Int) ≤ i ∧ i ≤ 2147483647) → ((-2147483648 : Int) ≤ c ∧ c ≤ 2147483647) → (st ≤ st1) → (st1 ≤ 7000) → (lg ≤ lg1) → (lg1 ≤ 1) → (lb + 2 ≤ lb1) → (Cd (lg1 = 0) (lb1 - (lb + 1) ≤ st1 - st)) → (lb1 - lb ≤ st1 - st + 2 + 112000) → (1 ≤ le) → (le ≤ 19999) → (Cd (lb1 < 20000) (le = lb + 1)) → (1 ≤ lf) → (lf ≤ 19999) → (Cd (lb1 < 20000) (lf = lb + 2)) → (b4 = 8 * al) → (0 ≤ i) → (i ≤ T0 18 (n).toNat) → (n + 1 ≤ gm) → (gm ≤ hi) → (s0 ≤ gt) → (gt ≤ s1) → (fw1 = fw) → (FA F (nw) Ax) → (SA T0 Vs Sn Ax) → (LN2 T0 (wG T0 Vs sb (wP T0 sb pb k Vs)) (T0 18 (n).toNat) (n) (c) (i) (n + 1) (hi) (s0) (s1) (gm) (gt)) → (ga ≤ st1) → (gb ≤ st1) → (PE 58 (La) (b4) (T0 18 (n).toNat) Ax) → (LBd (La) (T0 18 (n).toNat)) → (Cd (lg1 = 0 ∧ lb1 < 19999) (gA1 T0 Ax (La) F Sn nw (n) ((T0 18 (n).toNat).toNat) (st) (ga) (lb + 2) (lb1))) → (Cd (lg1 = 0 ∧ lb1 < 19999) (ST Ax (ga) (gb) (15) (22))) → (Cd (lg1 = 0 ∧ lb1 < 19999) (gA2 T0 Ax (n) ((i).toNat) (gb) (st1))) → wj X d jm359 (178, L, [], rV c0 c1 Gx Ax T) (fun o V_q => ∃ (G_q : Nat → Int) (A_q : Nat → Nat → Int) (st2 : Int) (lg2 : Int) (lb2 : Int) (nw2 : Int) (al2 : Int) (fw2 : Int), V_q = rV c0 c1 G_q A_q T ∧ o = .inl none ∧ Wk G_q A_q ∧ Fr [70, 77, 79, 81, 89] [13, 44, 45, 46, 47, 50, 51, 56, 57, 58] G A G_q A_q ∧ Fx [44, 45, 46, 47] (st) A A_q ∧ Fx [58] (8 * al) A A_q ∧ Fx [56, 57] (8 * nw) A A_q ∧ G_q 70 = st2 ∧ G_q 79 = lg2 ∧ G_q 77 = lb2 ∧ G_q 81 = nw2 ∧ G_q 89 = al2 ∧ A_q 51 (nw).toNat = fw2 ∧ (st ≤ st2) ∧ (st2 ≤ 7000) ∧ (lg ≤ lg2) ∧ (lg2 ≤ 1) ∧ (lb ≤ lb2) ∧ (Cd (lg2 = 0) (lb2 - lb ≤ st2 - st)) ∧ (lb2 - lb ≤ st2 - st + bd) ∧ (Cd (lg2 = 0 ∧ lb2 < 19999) (Fx [50] (lb + 1) A A_q)) ∧ (nw2 = nw) ∧ (al2 = al) ∧ (fw2 = fw) ∧ (FA F (nw) A_q) ∧ (SA T0 Vs Sn A_q) ∧ (Cd (lg2 = 0 ∧ lb2 < 19999) (gAl T0 A_q F Sn nw (gP T0 A_q Q k F Sn nw) (n) (st) (st2) (lb) (lb2))) ∧ True) := by
  have hF0 : Fr [70, 77, 79, 81, 89] [13, 44, 45, 46, 47, 50, 51, 56, 57, 58] G A G A := Fr_rf
  have hC0 : Fx [44, 45, 46, 47] (st) A A := Fx_rf
  have hAl0 : Fx [58] (8 * al) A A := Fx_rf
  have hBp0 : Fx [56, 57] (8 * nw) A A := Fx_rf
  have b_st : (-2147483648 : Int) ≤ st ∧ st ≤ 2147483647 := e_st ▸ hW.1 70
  have b_lg : (0 : Int) ≤ lg ∧ lg ≤ 1 := e_lg ▸ hW.1 79
  have b_lb : (-2147483648 : Int) ≤ lb ∧ lb ≤ 2147483647 := e_lb ▸ hW.1 77
  have b_nw : (-2147483648 : Int) ≤ nw ∧ nw ≤ 2147483647 := e_nw ▸ hW.1 81
  have b_al : (-2147483648 : Int) ≤ al ∧ al ≤ 2147483647 := e_al ▸ hW.1 89
  have b_fw : (-2147483648 : Int) ≤ fw ∧ fw ≤ 2147483647 := e_fw ▸ hW.2 51 _
  have hWT := TA_w hW p_0
  have hBo0 : Cd (lg = 0 ∧ lb < 19999) (Fx [50] (lb + 1) A A) := Cd_mk (fun _ => Fx_rf)
  have hfw := FA_at p_1 p_4 e_fw
  have hbp := WB_p p_26 (by omega) (by omega) (by omega)
  intro m
  induction m using Nat.strongRecOn with
  | ind m ih178 =>
    intro L Gx Ax le lf b4 i c st1 lg1 lb1 fw1 gm gt ga gb La hm gL_0 gL_1 gL_2 gL_3 gL_4 gL_5 gL_6 hWx hFx hCx hAlx hBpx hBox ex_st1 ex_lg1 ex_lb1 ex_fw1 fx_81 fx_89 rx_le rx_lf rx_b4 rx_i rx_c iv_0 iv_1 iv_2 iv_3 iv_4 iv_5 iv_6 iv_7 iv_8 iv_9 iv_10 iv_11 iv_12 iv_13 iv_14 iv_15 iv_16 iv_17 iv_18 iv_19 iv_20 iv_21 iv_22 iv_23 iv_24 iv_25 iv_26 iv_27 iv_28 iv_29 iv_30
    have b_st1 : (-2147483648 : Int) ≤ st1 ∧ st1 ≤ 2147483647 := ex_st1 ▸ hWx.1 70
    have b_lg1 : (0 : Int) ≤ lg1 ∧ lg1 ≤ 1 := ex_lg1 ▸ hWx.1 79
    have b_lb1 : (-2147483648 : Int) ≤ lb1 ∧ lb1 ≤ 2147483647 := ex_lb1 ▸ hWx.1 77
    refine jx_ld (pc_q := 180) (l_q := L) (st_q := [.int (i32 (c))]) rfl (jl_iload gL_6) ?_
    refine jx_if_le (pc_q := 183) (tg := 265) rfl rfl rfl (Int.le_trans (by decide : (-2147483648 : Int) ≤ -2147483648) rx_c.1) (Int.le_trans rx_c.2 (by decide : (2147483647 : Int) ≤ 2147483647)) (fun h689 => ?_) (fun h689 => ?_)
    · have _q := h689
      have hie := LN2_end iv_23 (by omega)
      have _q : True := trivial
      refine jx_ld (pc_q := 266) (l_q := L) (st_q := [.ref 66]) rfl (jl_aloadn gL_0) ?_
      refine jx_ar (pc_q := 268) (st_q := [.int (i32 (25)), .ref 66]) rfl rfl rfl rfl ?_
      refine jx_vr (pc_q := 271) (as := [.int (i32 (25))]) (st := []) rfl rfl rfl rfl ⟨rfl, rfl, Nat.le_of_ble_eq_true rfl⟩ rfl rfl (c_op (dd := d) (hd := by omega) (hW := hWx) (oo := 25) (st := st1) (e_st := show Gx 70 = st1 from (ex_st1)) (lg := lg1) (e_lg := show Gx 79 = lg1 from (ex_lg1))  (h_oo := ⟨(by decide), (by decide)⟩)  (p_0 := by omega) (p_1 := by omega)) (fun o V_q hq => ?_)
      obtain ⟨G690, A691, st2_692, lg2_693, rfl, rfl, hW694, hF695, hQ696, e697, e698, p699, p700, p701, p702, p703, p704, -⟩ := hq
      have hF706 := Fr_tr hFx hF695 (Fr_sub (by decide)) (Fr_sub (by decide))
      have hC707 := Fx_tr hCx hQ696 (by omega)
      have hAl708 := Fx_f hAlx hF695 (by decide)
      have hBp709 := Fx_f hBpx hF695 (by decide)
      have sf710 := FA_fr (hF695.2 51 rfl) iv_21
      have sf711 := SA_fr (hF695.2 13 rfl) iv_22
      have sf712 : PE 58 (La) (b4) (T0 18 (n).toNat) A691 := PE_fr (hF695.2 58 rfl) iv_26
      have bst2_692 : (-2147483648 : Int) ≤ st2_692 ∧ st2_692 ≤ 2147483647 := e697 ▸ hW694.1 70
      have blg2_693 : (0 : Int) ≤ lg2_693 ∧ lg2_693 ≤ 1 := e698 ▸ hW694.1 79
      refine .inl ⟨rfl, ?_⟩
      have sf713 : Cd (lg2_693 = 0 ∧ lb1 < 19999) (gA1 T0 A691 (La) F Sn nw (n) ((T0 18 (n).toNat).toNat) (st) (ga) (lb + 2) (lb1)) := Cd_mk (fun hC => gA1_mv (Cg_fx (l0 := lb + 2) (l1 := lb1) hQ696 (Fx_f (w := lb1 + 1) Fx_rf hF695 (by decide)) (by omega)) (by omega) (Cd_ap iv_28 (by omega)))
      have sf714 : Cd (lg2_693 = 0 ∧ lb1 < 19999) (ST A691 (ga) (gb) (15) (22)) := Cd_mk (fun hC => ST_mv (Cg_fx (l0 := 0) (l1 := 0) hQ696 (Fx_f (w := 0 + 1) Fx_rf hF695 (by decide)) (by omega)) (by omega) (Cd_ap iv_29 (by omega)))
      have sf715 : Cd (lg2_693 = 0 ∧ lb1 < 19999) (gA2 T0 A691 (n) ((i).toNat) (gb) (st1)) := Cd_mk (fun hC => gA2_mv (Cg_fx (l0 := 0) (l1 := 0) hQ696 (Fx_f (w := 0 + 1) Fx_rf hF695 (by decide)) (by omega)) (by omega) (Cd_ap iv_30 (by omega)))
      have hBo716 : Cd (lg2_693 = 0 ∧ lb1 < 19999) (Fx [50] (lb + 1) A A691) := Cd_mk (fun hC => Fx_f (Cd_ap hBox (by omega)) hF695 (by decide))
      have _q : True := trivial
      refine jx_ar (pc_q := 272) (st_q := [.int (i32 (0))]) rfl rfl rfl rfl ?_
      refine jx_ld (pc_q := 274) (l_q := jSto1 L 5 (.int (i32 (0)))) (st_q := []) rfl rfl ?_
      obtain ⟨L717, eL717⟩ : ∃ q, q = jSto1 L 5 (.int (i32 (0))) := ⟨_, rfl⟩
      rw [← eL717]
      have gL717_0 : jGet L717 0 = some (.ref 66) := eL717 ▸ jg_ne (by decide) gL_0 rfl
      have gL717_1 : jGet L717 1 = some (.int (i32 (n))) := eL717 ▸ jg_ne (by decide) gL_1 rfl
      have gL717_2 : jGet L717 2 = some (.int (i32 (le))) := eL717 ▸ jg_ne (by decide) gL_2 rfl
      have gL717_3 : jGet L717 3 = some (.int (i32 (lf))) := eL717 ▸ jg_ne (by decide) gL_3 rfl
      have gL717_4 : jGet L717 4 = some (.int (i32 (b4))) := eL717 ▸ jg_ne (by decide) gL_4 rfl
      have gL717_6 : jGet L717 6 = some (.int (i32 (c))) := eL717 ▸ jg_ne (by decide) gL_6 rfl
      have gL717_5 : jGet L717 5 = some (.int (i32 (0))) := eL717 ▸ jg_eq
      refine jx_ld (pc_q := 275) (l_q := L717) (st_q := [.ref 66]) rfl (jl_aloadn gL717_0) ?_
      refine jr_get (pc_q := 278) (i := 38) (v := .ref 88) rfl rfl (by decide) rfl rfl ?_
      refine jx_ld (pc_q := 279) (l_q := L717) (st_q := [.int (i32 (n)), .ref 88]) rfl (jl_iloadn gL717_1) ?_
      have b718 : (-2147483648 : Int) ≤ T0 21 (n).toNat ∧ T0 21 (n).toNat ≤ 2147483647 := hWT.2 21 _
      refine jr_ldv (pc_q := 280) (i := 21) (m := 7000) (z := n) (y := T0 21 (n).toNat) rfl (by decide) rfl (by decide) (by omega) (by omega) rfl (show A691 21 (n).toNat = T0 21 (n).toNat from (congrFun ((hF695.2 21 rfl).trans ((hFx.2 21 rfl).trans (p_0 21 rfl))) _)) ?_
      refine jx_ld (pc_q := 282) (l_q := jSto1 L717 6 (.int (i32 (T0 21 (n).toNat)))) (st_q := []) rfl rfl ?_
      obtain ⟨L719, eL719⟩ : ∃ q, q = jSto1 L717 6 (.int (i32 (T0 21 (n).toNat))) := ⟨_, rfl⟩
      rw [← eL719]
      have gL719_0 : jGet L719 0 = some (.ref 66) := eL719 ▸ jg_ne (by decide) gL717_0 rfl
      have gL719_1 : jGet L719 1 = some (.int (i32 (n))) := eL719 ▸ jg_ne (by decide) gL717_1 rfl
      have gL719_2 : jGet L719 2 = some (.int (i32 (le))) := eL719 ▸ jg_ne (by decide) gL717_2 rfl
      have gL719_3 : jGet L719 3 = some (.int (i32 (lf))) := eL719 ▸ jg_ne (by decide) gL717_3 rfl
      have gL719_4 : jGet L719 4 = some (.int (i32 (b4))) := eL719 ▸ jg_ne (by decide) gL717_4 rfl
      have gL719_5 : jGet L719 5 = some (.int (i32 (0))) := eL719 ▸ jg_ne (by decide) gL717_5 rfl
      have gL719_6 : jGet L719 6 = some (.int (i32 (T0 21 (n).toNat))) := eL719 ▸ jg_eq
      exact c_genAlt_at_282 (X := X) (k := k) (hN := hN) (d := d) (T0 := T0) (Q := Q) (F := F) (Sn := Sn) (Vs := Vs) (sb := sb) (pb := pb) (c0 := c0) (c1 := c1) (G := G) (A := A) (T := T) (n := n) (hi := hi) (s0 := s0) (s1 := s1) (fr := fr) (z := z) (D := D) (bd := bd) (st := st) (lg := lg) (lb := lb) (nw := nw) (al := al) (fw := fw) (hd := hd) (hW := hW) (e_st := e_st) (e_lg := e_lg) (e_lb := e_lb) (e_nw := e_nw) (e_al := e_al) (e_fw := e_fw) (h_n := h_n) (p_0 := p_0) (p_1 := p_1) (p_2 := p_2) (p_3 := p_3) (p_4 := p_4) (p_5 := p_5) (p_6 := p_6) (p_7 := p_7) (p_8 := p_8) (p_9 := p_9) (p_10 := p_10) (p_11 := p_11) (p_12 := p_12) (p_13 := p_13) (p_14 := p_14) (p_15 := p_15) (p_16 := p_16) (p_17 := p_17) (p_18 := p_18) (p_19 := p_19) (p_20 := p_20) (p_21 := p_21) (p_22 := p_22) (p_23 := p_23) (p_24 := p_24) (p_25 := p_25) (p_26 := p_26) (p_27 := p_27) (p_28 := p_28) (p_29 := p_29) (p_30 := p_30) (p_31 := p_31) (p_32 := p_32) (p_33 := p_33) (p_34 := p_34) (p_35 := p_35) _ L719 G690 A691 (le) (lf) (b4) (0) (T0 21 (n).toNat) (st2_692) (lg2_693) (lb1) (fw1) (n + 1) (s0) (ga) (gb) (st1) (st2_692) (La) rfl gL719_0 gL719_1 gL719_2 gL719_3 gL719_4 gL719_5 gL719_6 hW694 hF706 hC707 hAl708 hBp709 (Cd_mk (fun hC => Cd_ap hBo716 (by omega))) ((e697)) ((e698)) (((hF695.1 77 rfl).trans (ex_lb1))) ((congrFun (hF695.2 51 rfl) _).trans (ex_fw1)) (((hF695.1 81 rfl).trans (fx_81))) (((hF695.1 89 rfl).trans (fx_89))) (by omega) (by omega) (by omega) (by omega) (by omega) (by omega) (by omega) (by omega) (by omega) (by omega) ((Cd_mk (fun hC => by have := Cd_ap iv_5 (by omega); omega))) (by omega) (by omega) (by omega) ((Cd_mk (fun hC => (by have hr := Cd_ap iv_9 (by omega); omega)))) (by omega) (by omega) ((Cd_mk (fun hC => (by have hr := Cd_ap iv_12 (by omega); omega)))) (by omega) (by omega) (by omega) (by omega) (by omega) (by omega) (by omega) (by omega) (sf710) (sf711) (p_21) (by omega) (by omega) (by omega) (by omega) (sf712) (iv_27) ((Cd_mk (fun hC => (Cd_ap sf713 (by omega))))) ((Cd_mk (fun hC => (Cd_ap sf714 (by omega))))) ((Cd_mk (fun hC => (gA2_i (by omega) (Cd_ap sf715 (by omega)))))) ((Cd_mk (fun hC => (Cd_ap p704 (by omega))))) ((Cd_mk (fun hC => (gA3_0 rfl (by omega)))))
    · have _q := h689
      obtain ⟨hi0, hi1, hcx, m1, t1, q1, q2, q3, q4, q5, q6, ⟨i1, i2, x, i3, i4, i5, i6⟩, hnx⟩ := LN2_hd iv_23 (by omega); have hmt : (hi - m1).toNat < m := mt_lt hm (by omega) (by omega)
      have _q : True := trivial
      refine jx_ld (pc_q := 184) (l_q := L) (st_q := [.ref 66]) rfl (jl_aloadn gL_0) ?_
      refine jx_ar (pc_q := 186) (st_q := [.int (i32 (7)), .ref 66]) rfl rfl rfl rfl ?_
      refine jx_ld (pc_q := 187) (l_q := L) (st_q := [.ref 66, .int (i32 (7)), .ref 66]) rfl (jl_aloadn gL_0) ?_
      refine jr_get (pc_q := 190) (i := 42) (v := .ref 92) rfl rfl (by decide) rfl rfl ?_
      refine jx_ld (pc_q := 191) (l_q := L) (st_q := [.int (i32 (n)), .ref 92, .int (i32 (7)), .ref 66]) rfl (jl_iloadn gL_1) ?_
      have b720 : (-2147483648 : Int) ≤ T0 25 (n).toNat ∧ T0 25 (n).toNat ≤ 2147483647 := hWT.2 25 _
      refine jr_ldv (pc_q := 192) (i := 25) (m := 7000) (z := n) (y := T0 25 (n).toNat) rfl (by decide) rfl (by decide) (by omega) (by omega) rfl (show Ax 25 (n).toNat = T0 25 (n).toNat from (congrFun ((hFx.2 25 rfl).trans (p_0 25 rfl)) _)) ?_
      refine jx_ar (pc_q := 193) (st_q := [.int (i32 (2)), .int (i32 (T0 25 (n).toNat)), .int (i32 (7)), .ref 66]) rfl rfl rfl rfl ?_
      refine jx_ld (pc_q := 195) (l_q := L) (st_q := [.int (i32 (i)), .int (i32 (2)), .int (i32 (T0 25 (n).toNat)), .int (i32 (7)), .ref 66]) rfl (jl_iload gL_5) ?_
      refine jx_mul (pc_q := 196) rfl rfl ?_
      refine jx_add (pc_q := 197) rfl rfl ?_
      refine jx_vr (pc_q := 200) (as := [.int (i32 (7)), .int (i32 ((T0 25 (n).toNat + (2 * i))))]) (st := []) rfl rfl rfl rfl ⟨rfl, rfl, Nat.le_of_ble_eq_true rfl⟩ rfl rfl (c_emit (dd := d) (hd := by omega) (hW := hWx) (fn := 7) (v := (T0 25 (n).toNat + (2 * i))) (st := st1) (e_st := show Gx 70 = st1 from (ex_st1)) (lg := lg1) (e_lg := show Gx 79 = lg1 from (ex_lg1))  (h_fn := ⟨(by decide), (by decide)⟩) (h_v := ⟨(by omega), (by omega)⟩)  (p_0 := by omega) (p_1 := by omega)) (fun o V_q hq => ?_)
      obtain ⟨G721, A722, st2_723, lg2_724, rfl, rfl, hW725, hF726, hQ727, e728, e729, p730, p731, p732, p733, p734, p735, -⟩ := hq
      have hF737 := Fr_tr hFx hF726 (Fr_sub (by decide)) (Fr_sub (by decide))
      have hC738 := Fx_tr hCx hQ727 (by omega)
      have hAl739 := Fx_f hAlx hF726 (by decide)
      have hBp740 := Fx_f hBpx hF726 (by decide)
      have sf741 := FA_fr (hF726.2 51 rfl) iv_21
      have sf742 := SA_fr (hF726.2 13 rfl) iv_22
      have sf743 : PE 58 (La) (b4) (T0 18 (n).toNat) A722 := PE_fr (hF726.2 58 rfl) iv_26
      have bst2_723 : (-2147483648 : Int) ≤ st2_723 ∧ st2_723 ≤ 2147483647 := e728 ▸ hW725.1 70
      have blg2_724 : (0 : Int) ≤ lg2_724 ∧ lg2_724 ≤ 1 := e729 ▸ hW725.1 79
      refine .inl ⟨rfl, ?_⟩
      have sf744 : Cd (lg2_724 = 0 ∧ lb1 < 19999) (gA1 T0 A722 (La) F Sn nw (n) ((T0 18 (n).toNat).toNat) (st) (ga) (lb + 2) (lb1)) := Cd_mk (fun hC => gA1_mv (Cg_fx (l0 := lb + 2) (l1 := lb1) hQ727 (Fx_f (w := lb1 + 1) Fx_rf hF726 (by decide)) (by omega)) (by omega) (Cd_ap iv_28 (by omega)))
      have sf745 : Cd (lg2_724 = 0 ∧ lb1 < 19999) (ST A722 (ga) (gb) (15) (22)) := Cd_mk (fun hC => ST_mv (Cg_fx (l0 := 0) (l1 := 0) hQ727 (Fx_f (w := 0 + 1) Fx_rf hF726 (by decide)) (by omega)) (by omega) (Cd_ap iv_29 (by omega)))
      have sf746 : Cd (lg2_724 = 0 ∧ lb1 < 19999) (gA2 T0 A722 (n) ((i).toNat) (gb) (st1)) := Cd_mk (fun hC => gA2_mv (Cg_fx (l0 := 0) (l1 := 0) hQ727 (Fx_f (w := 0 + 1) Fx_rf hF726 (by decide)) (by omega)) (by omega) (Cd_ap iv_30 (by omega)))
      have hBo747 : Cd (lg2_724 = 0 ∧ lb1 < 19999) (Fx [50] (lb + 1) A A722) := Cd_mk (fun hC => Fx_f (Cd_ap hBox (by omega)) hF726 (by decide))
      refine jx_ld (pc_q := 201) (l_q := L) (st_q := [.ref 66]) rfl (jl_aloadn gL_0) ?_
      refine jr_get (pc_q := 204) (i := 35) (v := .ref 85) rfl rfl (by decide) rfl rfl ?_
      refine jx_ld (pc_q := 206) (l_q := L) (st_q := [.int (i32 (c)), .ref 85]) rfl (jl_iload gL_6) ?_
      have b748 : (-2147483648 : Int) ≤ T0 18 (c).toNat ∧ T0 18 (c).toNat ≤ 2147483647 := hWT.2 18 _
      refine jr_ldv (pc_q := 207) (i := 18) (m := 7000) (z := c) (y := T0 18 (c).toNat) rfl (by decide) rfl (by decide) (by omega) (by omega) rfl (show A722 18 (c).toNat = T0 18 (c).toNat from (congrFun ((hF726.2 18 rfl).trans ((hFx.2 18 rfl).trans (p_0 18 rfl))) _)) ?_
      refine jx_if_le (pc_q := 210) (tg := 229) rfl rfl rfl (Int.le_trans (by decide : (-2147483648 : Int) ≤ -2147483648) b748.1) (Int.le_trans b748.2 (by decide : (2147483647 : Int) ≤ 2147483647)) (fun h749 => ?_) (fun h749 => ?_)
      · have _q := h749
        refine jx_ld (pc_q := 230) (l_q := L) (st_q := [.ref 66]) rfl (jl_aloadn gL_0) ?_
        refine jx_ld (pc_q := 231) (l_q := L) (st_q := [.ref 66, .ref 66]) rfl (jl_aloadn gL_0) ?_
        refine jr_get (pc_q := 234) (i := 35) (v := .ref 85) rfl rfl (by decide) rfl rfl ?_
        refine jx_ld (pc_q := 236) (l_q := L) (st_q := [.int (i32 (c)), .ref 85, .ref 66]) rfl (jl_iload gL_6) ?_
        refine jr_ldv (pc_q := 237) (i := 18) (m := 7000) (z := c) (y := T0 18 (c).toNat) rfl (by decide) rfl (by decide) (by omega) (by omega) rfl (show A722 18 (c).toNat = T0 18 (c).toNat from (congrFun ((hF726.2 18 rfl).trans ((hFx.2 18 rfl).trans (p_0 18 rfl))) _)) ?_
        refine jx_if_le (pc_q := 240) (tg := 245) rfl rfl rfl (Int.le_trans (by decide : (-2147483648 : Int) ≤ -2147483648) b748.1) (Int.le_trans b748.2 (by decide : (2147483647 : Int) ≤ 2147483647)) (fun h750 => ?_) (fun h750 => ?_)
        · have _q := h750
          refine jx_ar (pc_q := 247) (st_q := [.int (i32 (24)), .ref 66]) rfl rfl rfl rfl ?_
          refine jx_vr (pc_q := 250) (as := [.int (i32 (24))]) (st := []) rfl rfl rfl rfl ⟨rfl, rfl, Nat.le_of_ble_eq_true rfl⟩ rfl rfl (c_op (dd := d) (hd := by omega) (hW := hW725) (oo := 24) (st := st2_723) (e_st := show G721 70 = st2_723 from (e728)) (lg := lg2_724) (e_lg := show G721 79 = lg2_724 from (e729))  (h_oo := ⟨(by decide), (by decide)⟩)  (p_0 := by omega) (p_1 := by omega)) (fun o V_q hq => ?_)
          obtain ⟨G751, A752, st2_753, lg2_754, rfl, rfl, hW755, hF756, hQ757, e758, e759, p760, p761, p762, p763, p764, p765, -⟩ := hq
          have hF767 := Fr_tr hF737 hF756 (Fr_sub (by decide)) (Fr_sub (by decide))
          have hC768 := Fx_tr hC738 hQ757 (by omega)
          have hAl769 := Fx_f hAl739 hF756 (by decide)
          have hBp770 := Fx_f hBp740 hF756 (by decide)
          have sf771 := FA_fr (hF756.2 51 rfl) sf741
          have sf772 := SA_fr (hF756.2 13 rfl) sf742
          have sf773 : PE 58 (La) (b4) (T0 18 (n).toNat) A752 := PE_fr (hF756.2 58 rfl) sf743
          have bst2_753 : (-2147483648 : Int) ≤ st2_753 ∧ st2_753 ≤ 2147483647 := e758 ▸ hW755.1 70
          have blg2_754 : (0 : Int) ≤ lg2_754 ∧ lg2_754 ≤ 1 := e759 ▸ hW755.1 79
          refine .inl ⟨rfl, ?_⟩
          have sf774 : Cd (lg2_754 = 0 ∧ lb1 < 19999) (gA1 T0 A752 (La) F Sn nw (n) ((T0 18 (n).toNat).toNat) (st) (ga) (lb + 2) (lb1)) := Cd_mk (fun hC => gA1_mv (Cg_fx (l0 := lb + 2) (l1 := lb1) hQ757 (Fx_f (w := lb1 + 1) Fx_rf hF756 (by decide)) (by omega)) (by omega) (Cd_ap sf744 (by omega)))
          have sf775 : Cd (lg2_754 = 0 ∧ lb1 < 19999) (ST A752 (ga) (gb) (15) (22)) := Cd_mk (fun hC => ST_mv (Cg_fx (l0 := 0) (l1 := 0) hQ757 (Fx_f (w := 0 + 1) Fx_rf hF756 (by decide)) (by omega)) (by omega) (Cd_ap sf745 (by omega)))
          have sf776 : Cd (lg2_754 = 0 ∧ lb1 < 19999) (gA2 T0 A752 (n) ((i).toNat) (gb) (st1)) := Cd_mk (fun hC => gA2_mv (Cg_fx (l0 := 0) (l1 := 0) hQ757 (Fx_f (w := 0 + 1) Fx_rf hF756 (by decide)) (by omega)) (by omega) (Cd_ap sf746 (by omega)))
          have sf777 : Cd (lg2_754 = 0 ∧ lb1 < 19999) (ST A752 (st1) (st2_723) (7) (T0 25 (n).toNat + (2 * i))) := Cd_mk (fun hC => ST_mv (Cg_fx (l0 := 0) (l1 := 0) hQ757 (Fx_f (w := 0 + 1) Fx_rf hF756 (by decide)) (by omega)) (by omega) (Cd_ap p735 (by omega)))
          have hBo778 : Cd (lg2_754 = 0 ∧ lb1 < 19999) (Fx [50] (lb + 1) A A752) := Cd_mk (fun hC => Fx_f (Cd_ap hBo747 (by omega)) hF756 (by decide))
          refine jx_inc (pc_q := 253) (l_q := jSto1 L 5 (.int (i32 ((i + (1)))))) (x := i) rfl gL_5 (by decide) rfl rfl ?_
          obtain ⟨L779, eL779⟩ : ∃ q, q = jSto1 L 5 (.int (i32 ((i + (1))))) := ⟨_, rfl⟩
          rw [← eL779]
          have gL779_0 : jGet L779 0 = some (.ref 66) := eL779 ▸ jg_ne (by decide) gL_0 rfl
          have gL779_1 : jGet L779 1 = some (.int (i32 (n))) := eL779 ▸ jg_ne (by decide) gL_1 rfl
          have gL779_2 : jGet L779 2 = some (.int (i32 (le))) := eL779 ▸ jg_ne (by decide) gL_2 rfl
          have gL779_3 : jGet L779 3 = some (.int (i32 (lf))) := eL779 ▸ jg_ne (by decide) gL_3 rfl
          have gL779_4 : jGet L779 4 = some (.int (i32 (b4))) := eL779 ▸ jg_ne (by decide) gL_4 rfl
          have gL779_6 : jGet L779 6 = some (.int (i32 (c))) := eL779 ▸ jg_ne (by decide) gL_6 rfl
          have gL779_5 : jGet L779 5 = some (.int (i32 ((i + (1))))) := eL779 ▸ jg_eq
          refine jx_ld (pc_q := 254) (l_q := L779) (st_q := [.ref 66]) rfl (jl_aloadn gL779_0) ?_
          refine jr_get (pc_q := 257) (i := 39) (v := .ref 89) rfl rfl (by decide) rfl rfl ?_
          refine jx_ld (pc_q := 259) (l_q := L779) (st_q := [.int (i32 (c)), .ref 89]) rfl (jl_iload gL779_6) ?_
          have b780 : (-2147483648 : Int) ≤ T0 22 (c).toNat ∧ T0 22 (c).toNat ≤ 2147483647 := hWT.2 22 _
          refine jr_ldv (pc_q := 260) (i := 22) (m := 7000) (z := c) (y := T0 22 (c).toNat) rfl (by decide) rfl (by decide) (by omega) (by omega) rfl (show A752 22 (c).toNat = T0 22 (c).toNat from (congrFun ((hF756.2 22 rfl).trans ((hF726.2 22 rfl).trans ((hFx.2 22 rfl).trans (p_0 22 rfl)))) _)) ?_
          refine jx_ld (pc_q := 262) (l_q := jSto1 L779 6 (.int (i32 (T0 22 (c).toNat)))) (st_q := []) rfl rfl ?_
          obtain ⟨L781, eL781⟩ : ∃ q, q = jSto1 L779 6 (.int (i32 (T0 22 (c).toNat))) := ⟨_, rfl⟩
          rw [← eL781]
          have gL781_0 : jGet L781 0 = some (.ref 66) := eL781 ▸ jg_ne (by decide) gL779_0 rfl
          have gL781_1 : jGet L781 1 = some (.int (i32 (n))) := eL781 ▸ jg_ne (by decide) gL779_1 rfl
          have gL781_2 : jGet L781 2 = some (.int (i32 (le))) := eL781 ▸ jg_ne (by decide) gL779_2 rfl
          have gL781_3 : jGet L781 3 = some (.int (i32 (lf))) := eL781 ▸ jg_ne (by decide) gL779_3 rfl
          have gL781_4 : jGet L781 4 = some (.int (i32 (b4))) := eL781 ▸ jg_ne (by decide) gL779_4 rfl
          have gL781_5 : jGet L781 5 = some (.int (i32 ((i + (1))))) := eL781 ▸ jg_ne (by decide) gL779_5 rfl
          have gL781_6 : jGet L781 6 = some (.int (i32 (T0 22 (c).toNat))) := eL781 ▸ jg_eq
          refine jx_go (tg := 178) rfl rfl ?_
          exact ih178 _ (hmt) L781 G751 A752 (le) (lf) (b4) ((i + (1))) (T0 22 (c).toNat) (st2_753) (lg2_754) (lb1) (fw1) (m1) (t1) (ga) (gb) (La) rfl gL781_0 gL781_1 gL781_2 gL781_3 gL781_4 gL781_5 gL781_6 hW755 hF767 hC768 hAl769 hBp770 (Cd_mk (fun hC => Cd_ap hBo778 (by omega))) ((e758)) ((e759)) (((hF756.1 77 rfl).trans ((hF726.1 77 rfl).trans (ex_lb1)))) ((congrFun ((hF756.2 51 rfl).trans (hF726.2 51 rfl)) _).trans (ex_fw1)) (((hF756.1 81 rfl).trans ((hF726.1 81 rfl).trans (fx_81)))) (((hF756.1 89 rfl).trans ((hF726.1 89 rfl).trans (fx_89)))) (by omega) (by omega) (by omega) (by omega) (by omega) (by omega) (by omega) (by omega) (by omega) (by omega) ((Cd_mk (fun hC => by have := Cd_ap iv_5 (by omega); omega))) (by omega) (by omega) (by omega) ((Cd_mk (fun hC => (by have hr := Cd_ap iv_9 (by omega); omega)))) (by omega) (by omega) ((Cd_mk (fun hC => (by have hr := Cd_ap iv_12 (by omega); omega)))) (by omega) (by omega) (by omega) (by omega) (by omega) (by omega) (by omega) (by omega) (sf771) (sf772) ((hnx _ (by omega))) (by omega) (by omega) (sf773) (iv_27) ((Cd_mk (fun hC => (Cd_ap sf774 (by omega))))) ((Cd_mk (fun hC => (Cd_ap sf775 (by omega))))) ((Cd_mk (fun hC => (gA2_nx (by omega) (Cd_ap sf776 (by omega)) hcx (al2_z (by omega) (Cd_ap sf777 (by omega)) (Cd_ap p765 (by omega)) (by omega))))))
        · have _q := h750
          exfalso
          omega
      · have _q := h749
        have _q : True := trivial
        refine jx_ld (pc_q := 211) (l_q := L) (st_q := [.ref 66]) rfl (jl_aloadn gL_0) ?_
        refine jx_ar (pc_q := 213) (st_q := [.int (i32 (7)), .ref 66]) rfl rfl rfl rfl ?_
        refine jx_ld (pc_q := 214) (l_q := L) (st_q := [.ref 66, .int (i32 (7)), .ref 66]) rfl (jl_aloadn gL_0) ?_
        refine jr_get (pc_q := 217) (i := 42) (v := .ref 92) rfl rfl (by decide) rfl rfl ?_
        refine jx_ld (pc_q := 218) (l_q := L) (st_q := [.int (i32 (n)), .ref 92, .int (i32 (7)), .ref 66]) rfl (jl_iloadn gL_1) ?_
        refine jr_ldv (pc_q := 219) (i := 25) (m := 7000) (z := n) (y := T0 25 (n).toNat) rfl (by decide) rfl (by decide) (by omega) (by omega) rfl (show A722 25 (n).toNat = T0 25 (n).toNat from (congrFun ((hF726.2 25 rfl).trans ((hFx.2 25 rfl).trans (p_0 25 rfl))) _)) ?_
        refine jx_ar (pc_q := 220) (st_q := [.int (i32 (2)), .int (i32 (T0 25 (n).toNat)), .int (i32 (7)), .ref 66]) rfl rfl rfl rfl ?_
        refine jx_ld (pc_q := 222) (l_q := L) (st_q := [.int (i32 (i)), .int (i32 (2)), .int (i32 (T0 25 (n).toNat)), .int (i32 (7)), .ref 66]) rfl (jl_iload gL_5) ?_
        refine jx_mul (pc_q := 223) rfl rfl ?_
        refine jx_add (pc_q := 224) rfl rfl ?_
        refine jx_ar (pc_q := 225) (st_q := [.int (i32 (1)), .int (i32 ((T0 25 (n).toNat + (2 * i)))), .int (i32 (7)), .ref 66]) rfl rfl rfl rfl ?_
        refine jx_add (pc_q := 226) rfl rfl ?_
        refine jx_vr (pc_q := 229) (as := [.int (i32 (7)), .int (i32 (((T0 25 (n).toNat + (2 * i)) + 1)))]) (st := []) rfl rfl rfl rfl ⟨rfl, rfl, Nat.le_of_ble_eq_true rfl⟩ rfl rfl (c_emit (dd := d) (hd := by omega) (hW := hW725) (fn := 7) (v := ((T0 25 (n).toNat + (2 * i)) + 1)) (st := st2_723) (e_st := show G721 70 = st2_723 from (e728)) (lg := lg2_724) (e_lg := show G721 79 = lg2_724 from (e729))  (h_fn := ⟨(by decide), (by decide)⟩) (h_v := ⟨(by omega), (by omega)⟩)  (p_0 := by omega) (p_1 := by omega)) (fun o V_q hq => ?_)
        obtain ⟨G782, A783, st2_784, lg2_785, rfl, rfl, hW786, hF787, hQ788, e789, e790, p791, p792, p793, p794, p795, p796, -⟩ := hq
        have hF798 := Fr_tr hF737 hF787 (Fr_sub (by decide)) (Fr_sub (by decide))
        have hC799 := Fx_tr hC738 hQ788 (by omega)
        have hAl800 := Fx_f hAl739 hF787 (by decide)
        have hBp801 := Fx_f hBp740 hF787 (by decide)
        have sf802 := FA_fr (hF787.2 51 rfl) sf741
        have sf803 := SA_fr (hF787.2 13 rfl) sf742
        have sf804 : PE 58 (La) (b4) (T0 18 (n).toNat) A783 := PE_fr (hF787.2 58 rfl) sf743
        have bst2_784 : (-2147483648 : Int) ≤ st2_784 ∧ st2_784 ≤ 2147483647 := e789 ▸ hW786.1 70
        have blg2_785 : (0 : Int) ≤ lg2_785 ∧ lg2_785 ≤ 1 := e790 ▸ hW786.1 79
        refine .inl ⟨rfl, ?_⟩
        have sf805 : Cd (lg2_785 = 0 ∧ lb1 < 19999) (gA1 T0 A783 (La) F Sn nw (n) ((T0 18 (n).toNat).toNat) (st) (ga) (lb + 2) (lb1)) := Cd_mk (fun hC => gA1_mv (Cg_fx (l0 := lb + 2) (l1 := lb1) hQ788 (Fx_f (w := lb1 + 1) Fx_rf hF787 (by decide)) (by omega)) (by omega) (Cd_ap sf744 (by omega)))
        have sf806 : Cd (lg2_785 = 0 ∧ lb1 < 19999) (ST A783 (ga) (gb) (15) (22)) := Cd_mk (fun hC => ST_mv (Cg_fx (l0 := 0) (l1 := 0) hQ788 (Fx_f (w := 0 + 1) Fx_rf hF787 (by decide)) (by omega)) (by omega) (Cd_ap sf745 (by omega)))
        have sf807 : Cd (lg2_785 = 0 ∧ lb1 < 19999) (gA2 T0 A783 (n) ((i).toNat) (gb) (st1)) := Cd_mk (fun hC => gA2_mv (Cg_fx (l0 := 0) (l1 := 0) hQ788 (Fx_f (w := 0 + 1) Fx_rf hF787 (by decide)) (by omega)) (by omega) (Cd_ap sf746 (by omega)))
        have sf808 : Cd (lg2_785 = 0 ∧ lb1 < 19999) (ST A783 (st1) (st2_723) (7) (T0 25 (n).toNat + (2 * i))) := Cd_mk (fun hC => ST_mv (Cg_fx (l0 := 0) (l1 := 0) hQ788 (Fx_f (w := 0 + 1) Fx_rf hF787 (by decide)) (by omega)) (by omega) (Cd_ap p735 (by omega)))
        have hBo809 : Cd (lg2_785 = 0 ∧ lb1 < 19999) (Fx [50] (lb + 1) A A783) := Cd_mk (fun hC => Fx_f (Cd_ap hBo747 (by omega)) hF787 (by decide))
        refine jx_ld (pc_q := 230) (l_q := L) (st_q := [.ref 66]) rfl (jl_aloadn gL_0) ?_
        refine jx_ld (pc_q := 231) (l_q := L) (st_q := [.ref 66, .ref 66]) rfl (jl_aloadn gL_0) ?_
        refine jr_get (pc_q := 234) (i := 35) (v := .ref 85) rfl rfl (by decide) rfl rfl ?_
        refine jx_ld (pc_q := 236) (l_q := L) (st_q := [.int (i32 (c)), .ref 85, .ref 66]) rfl (jl_iload gL_6) ?_
        refine jr_ldv (pc_q := 237) (i := 18) (m := 7000) (z := c) (y := T0 18 (c).toNat) rfl (by decide) rfl (by decide) (by omega) (by omega) rfl (show A783 18 (c).toNat = T0 18 (c).toNat from (congrFun ((hF787.2 18 rfl).trans ((hF726.2 18 rfl).trans ((hFx.2 18 rfl).trans (p_0 18 rfl)))) _)) ?_
        refine jx_if_le (pc_q := 240) (tg := 245) rfl rfl rfl (Int.le_trans (by decide : (-2147483648 : Int) ≤ -2147483648) b748.1) (Int.le_trans b748.2 (by decide : (2147483647 : Int) ≤ 2147483647)) (fun h810 => ?_) (fun h810 => ?_)
        · have _q := h810
          exfalso
          omega
        · have _q := h810
          refine jx_ar (pc_q := 242) (st_q := [.int (i32 (23)), .ref 66]) rfl rfl rfl rfl ?_
          refine jx_go (tg := 247) rfl rfl ?_
          refine jx_vr (pc_q := 250) (as := [.int (i32 (23))]) (st := []) rfl rfl rfl rfl ⟨rfl, rfl, Nat.le_of_ble_eq_true rfl⟩ rfl rfl (c_op (dd := d) (hd := by omega) (hW := hW786) (oo := 23) (st := st2_784) (e_st := show G782 70 = st2_784 from (e789)) (lg := lg2_785) (e_lg := show G782 79 = lg2_785 from (e790))  (h_oo := ⟨(by decide), (by decide)⟩)  (p_0 := by omega) (p_1 := by omega)) (fun o V_q hq => ?_)
          obtain ⟨G811, A812, st2_813, lg2_814, rfl, rfl, hW815, hF816, hQ817, e818, e819, p820, p821, p822, p823, p824, p825, -⟩ := hq
          have hF827 := Fr_tr hF798 hF816 (Fr_sub (by decide)) (Fr_sub (by decide))
          have hC828 := Fx_tr hC799 hQ817 (by omega)
          have hAl829 := Fx_f hAl800 hF816 (by decide)
          have hBp830 := Fx_f hBp801 hF816 (by decide)
          have sf831 := FA_fr (hF816.2 51 rfl) sf802
          have sf832 := SA_fr (hF816.2 13 rfl) sf803
          have sf833 : PE 58 (La) (b4) (T0 18 (n).toNat) A812 := PE_fr (hF816.2 58 rfl) sf804
          have bst2_813 : (-2147483648 : Int) ≤ st2_813 ∧ st2_813 ≤ 2147483647 := e818 ▸ hW815.1 70
          have blg2_814 : (0 : Int) ≤ lg2_814 ∧ lg2_814 ≤ 1 := e819 ▸ hW815.1 79
          refine .inl ⟨rfl, ?_⟩
          have sf834 : Cd (lg2_814 = 0 ∧ lb1 < 19999) (gA1 T0 A812 (La) F Sn nw (n) ((T0 18 (n).toNat).toNat) (st) (ga) (lb + 2) (lb1)) := Cd_mk (fun hC => gA1_mv (Cg_fx (l0 := lb + 2) (l1 := lb1) hQ817 (Fx_f (w := lb1 + 1) Fx_rf hF816 (by decide)) (by omega)) (by omega) (Cd_ap sf805 (by omega)))
          have sf835 : Cd (lg2_814 = 0 ∧ lb1 < 19999) (ST A812 (ga) (gb) (15) (22)) := Cd_mk (fun hC => ST_mv (Cg_fx (l0 := 0) (l1 := 0) hQ817 (Fx_f (w := 0 + 1) Fx_rf hF816 (by decide)) (by omega)) (by omega) (Cd_ap sf806 (by omega)))
          have sf836 : Cd (lg2_814 = 0 ∧ lb1 < 19999) (gA2 T0 A812 (n) ((i).toNat) (gb) (st1)) := Cd_mk (fun hC => gA2_mv (Cg_fx (l0 := 0) (l1 := 0) hQ817 (Fx_f (w := 0 + 1) Fx_rf hF816 (by decide)) (by omega)) (by omega) (Cd_ap sf807 (by omega)))
          have sf837 : Cd (lg2_814 = 0 ∧ lb1 < 19999) (ST A812 (st1) (st2_723) (7) (T0 25 (n).toNat + (2 * i))) := Cd_mk (fun hC => ST_mv (Cg_fx (l0 := 0) (l1 := 0) hQ817 (Fx_f (w := 0 + 1) Fx_rf hF816 (by decide)) (by omega)) (by omega) (Cd_ap sf808 (by omega)))
          have sf838 : Cd (lg2_814 = 0 ∧ lb1 < 19999) (ST A812 (st2_723) (st2_784) (7) ((T0 25 (n).toNat + (2 * i)) + 1)) := Cd_mk (fun hC => ST_mv (Cg_fx (l0 := 0) (l1 := 0) hQ817 (Fx_f (w := 0 + 1) Fx_rf hF816 (by decide)) (by omega)) (by omega) (Cd_ap p796 (by omega)))
          have hBo839 : Cd (lg2_814 = 0 ∧ lb1 < 19999) (Fx [50] (lb + 1) A A812) := Cd_mk (fun hC => Fx_f (Cd_ap hBo809 (by omega)) hF816 (by decide))
          refine jx_inc (pc_q := 253) (l_q := jSto1 L 5 (.int (i32 ((i + (1)))))) (x := i) rfl gL_5 (by decide) rfl rfl ?_
          obtain ⟨L840, eL840⟩ : ∃ q, q = jSto1 L 5 (.int (i32 ((i + (1))))) := ⟨_, rfl⟩
          rw [← eL840]
          have gL840_0 : jGet L840 0 = some (.ref 66) := eL840 ▸ jg_ne (by decide) gL_0 rfl
          have gL840_1 : jGet L840 1 = some (.int (i32 (n))) := eL840 ▸ jg_ne (by decide) gL_1 rfl
          have gL840_2 : jGet L840 2 = some (.int (i32 (le))) := eL840 ▸ jg_ne (by decide) gL_2 rfl
          have gL840_3 : jGet L840 3 = some (.int (i32 (lf))) := eL840 ▸ jg_ne (by decide) gL_3 rfl
          have gL840_4 : jGet L840 4 = some (.int (i32 (b4))) := eL840 ▸ jg_ne (by decide) gL_4 rfl
          have gL840_6 : jGet L840 6 = some (.int (i32 (c))) := eL840 ▸ jg_ne (by decide) gL_6 rfl
          have gL840_5 : jGet L840 5 = some (.int (i32 ((i + (1))))) := eL840 ▸ jg_eq
          refine jx_ld (pc_q := 254) (l_q := L840) (st_q := [.ref 66]) rfl (jl_aloadn gL840_0) ?_
          refine jr_get (pc_q := 257) (i := 39) (v := .ref 89) rfl rfl (by decide) rfl rfl ?_
          refine jx_ld (pc_q := 259) (l_q := L840) (st_q := [.int (i32 (c)), .ref 89]) rfl (jl_iload gL840_6) ?_
          have b841 : (-2147483648 : Int) ≤ T0 22 (c).toNat ∧ T0 22 (c).toNat ≤ 2147483647 := hWT.2 22 _
          refine jr_ldv (pc_q := 260) (i := 22) (m := 7000) (z := c) (y := T0 22 (c).toNat) rfl (by decide) rfl (by decide) (by omega) (by omega) rfl (show A812 22 (c).toNat = T0 22 (c).toNat from (congrFun ((hF816.2 22 rfl).trans ((hF787.2 22 rfl).trans ((hF726.2 22 rfl).trans ((hFx.2 22 rfl).trans (p_0 22 rfl))))) _)) ?_
          refine jx_ld (pc_q := 262) (l_q := jSto1 L840 6 (.int (i32 (T0 22 (c).toNat)))) (st_q := []) rfl rfl ?_
          obtain ⟨L842, eL842⟩ : ∃ q, q = jSto1 L840 6 (.int (i32 (T0 22 (c).toNat))) := ⟨_, rfl⟩
          rw [← eL842]
          have gL842_0 : jGet L842 0 = some (.ref 66) := eL842 ▸ jg_ne (by decide) gL840_0 rfl
          have gL842_1 : jGet L842 1 = some (.int (i32 (n))) := eL842 ▸ jg_ne (by decide) gL840_1 rfl
          have gL842_2 : jGet L842 2 = some (.int (i32 (le))) := eL842 ▸ jg_ne (by decide) gL840_2 rfl
          have gL842_3 : jGet L842 3 = some (.int (i32 (lf))) := eL842 ▸ jg_ne (by decide) gL840_3 rfl
          have gL842_4 : jGet L842 4 = some (.int (i32 (b4))) := eL842 ▸ jg_ne (by decide) gL840_4 rfl
          have gL842_5 : jGet L842 5 = some (.int (i32 ((i + (1))))) := eL842 ▸ jg_ne (by decide) gL840_5 rfl
          have gL842_6 : jGet L842 6 = some (.int (i32 (T0 22 (c).toNat))) := eL842 ▸ jg_eq
          refine jx_go (tg := 178) rfl rfl ?_
          exact ih178 _ (hmt) L842 G811 A812 (le) (lf) (b4) ((i + (1))) (T0 22 (c).toNat) (st2_813) (lg2_814) (lb1) (fw1) (m1) (t1) (ga) (gb) (La) rfl gL842_0 gL842_1 gL842_2 gL842_3 gL842_4 gL842_5 gL842_6 hW815 hF827 hC828 hAl829 hBp830 (Cd_mk (fun hC => Cd_ap hBo839 (by omega))) ((e818)) ((e819)) (((hF816.1 77 rfl).trans ((hF787.1 77 rfl).trans ((hF726.1 77 rfl).trans (ex_lb1))))) ((congrFun ((hF816.2 51 rfl).trans ((hF787.2 51 rfl).trans (hF726.2 51 rfl))) _).trans (ex_fw1)) (((hF816.1 81 rfl).trans ((hF787.1 81 rfl).trans ((hF726.1 81 rfl).trans (fx_81))))) (((hF816.1 89 rfl).trans ((hF787.1 89 rfl).trans ((hF726.1 89 rfl).trans (fx_89))))) (by omega) (by omega) (by omega) (by omega) (by omega) (by omega) (by omega) (by omega) (by omega) (by omega) ((Cd_mk (fun hC => by have := Cd_ap iv_5 (by omega); omega))) (by omega) (by omega) (by omega) ((Cd_mk (fun hC => (by have hr := Cd_ap iv_9 (by omega); omega)))) (by omega) (by omega) ((Cd_mk (fun hC => (by have hr := Cd_ap iv_12 (by omega); omega)))) (by omega) (by omega) (by omega) (by omega) (by omega) (by omega) (by omega) (by omega) (sf831) (sf832) ((hnx _ (by omega))) (by omega) (by omega) (sf833) (iv_27) ((Cd_mk (fun hC => (Cd_ap sf834 (by omega))))) ((Cd_mk (fun hC => (Cd_ap sf835 (by omega))))) ((Cd_mk (fun hC => (gA2_nx (by omega) (Cd_ap sf836 (by omega)) hcx (al2_p (by omega) (Cd_ap sf837 (by omega)) (Cd_ap sf838 (by omega)) (Cd_ap p825 (by omega)) (by omega) (by omega))))))
set_option maxRecDepth 20000 in
set_option maxHeartbeats 4000000 in
theorem c_genAlt_at_40 {X : jX} {k : Nat} (hN : GN X k) {d : Nat} {T0 : Nat → Nat → Int} {Q F Sn : Int → Int} {Vs : Nat → Prop} {sb pb : Int} {c0 c1 : jC} {G : Nat → Int} {A : Nat → Nat → Int} {T : jH} {n : Int} {hi s0 s1 fr z D bd : Int} {st lg lb nw al fw : Int} (hd : 2 * k + 63 ≤ d + 1) (hW : Wk G A) (e_st : G 70 = st) (e_lg : G 79 = lg) (e_lb : G 77 = lb) (e_nw : G 81 = nw) (e_al : G 89 = al) (e_fw : A 51 (nw).toNat = fw) (h_n : (-2147483648 : Int) ≤ n ∧ n ≤ 2147483647) (p_0 : TA T0 A) (p_1 : FA F (nw) A) (p_2 : SA T0 Vs Sn A) (p_3 : VW T0 Vs (nw)) (p_4 : 0 ≤ nw) (p_5 : nw + (k : Int) + 1 ≤ 38) (p_6 : 0 ≤ al) (p_7 : al + (k : Int) + 1 ≤ 38) (p_8 : 0 ≤ st) (p_9 : st ≤ 7000) (p_10 : 0 ≤ lb) (p_11 : lb + bd + 7000 - st ≤ 1900000000) (p_12 : hi ≤ 6999) (p_13 : sb ≤ 202) (p_14 : 0 ≤ n) (p_15 : n < hi) (p_16 : 0 ≤ s0) (p_17 : s0 ≤ s1) (p_18 : s1 ≤ sb) (p_19 : 1 ≤ T0 18 (n).toNat) (p_20 : T0 18 (n).toNat ≤ 8) (p_21 : LN2 T0 (wG T0 Vs sb (wP T0 sb pb k Vs)) (T0 18 (n).toNat) (n) (T0 21 (n).toNat) (0) (n + 1) (hi) (s0) (s1) (n + 1) (s0)) (p_22 : VB (Vs) (s0)) (p_23 : (∀ l, CH T0 (T0 21 (n).toNat) l → ∀ c ∈ l, lG T0 (lP T0 k) (fr) (nw) (z) (D) c)) (p_24 : 0 ≤ T0 25 (n).toNat) (p_25 : T0 25 (n).toNat + 2 * T0 18 (n).toNat ≤ 4000) (p_26 : WB (n) (hi) (bd)) (p_27 : 1 ≤ fr) (p_28 : z ≤ 4000) (p_29 : 0 ≤ D) (p_30 : D ≤ 4000) (p_31 : -4000 ≤ fw - D) (p_32 : fw ≤ 0) (p_33 : pb ≤ 24) (p_34 : PV T0 pb) (p_35 : PA Q pb A) : ∀ (m : Nat) (L : jL) (Gx : Nat → Int) (Ax : Nat → Nat → Int) (le lf b4 i c st1 lg1 lb1 fw1 gm gt be : Int) (La : Int → Int), (hi - gm).toNat = m → jGet L 0 = some (.ref 66) → jGet L 1 = some (.int (i32 (n))) → jGet L 2 = some (.int (i32 le)) → jGet L 3 = some (.int (i32 lf)) → jGet L 4 = some (.int (i32 b4)) → jGet L 5 = some (.int (i32 i)) → jGet L 6 = some (.int (i32 c)) → Wk Gx Ax → Fr [70, 77, 79, 81, 89] [13, 44, 45, 46, 47, 50, 51, 56, 57, 58] G A Gx Ax → Fx [44, 45, 46, 47] (st) A Ax → Fx [58] (8 * al) A Ax → Fx [56, 57] (8 * nw) A Ax → Cd (lg1 = 0 ∧ lb1 < 19999) (Fx [50] (lb + 1) A Ax) → Gx 70 = st1 → Gx 79 = lg1 → Gx 77 = lb1 → Ax 51 (nw).toNat = fw1 → Gx 81 = nw → Gx 89 = (al + 1) → ((-2147483648 : Int) ≤ le ∧ le ≤ 2147483647) → ((-2147483648 : Int) ≤ lf ∧ lf ≤ 2147483647) → ((-2147483648 : Int) ≤ b4 ∧ b4 ≤ 2147483647) → ((-2147483648 : Int) ≤ i ∧ i ≤ 2147483647) → ((-2147483648 : Int) ≤ c ∧ c ≤ 2147483647) → (st ≤ st1) → (st1 ≤ 7000) → (lg ≤ lg1) → (lg1 ≤ 1) → (lb + 2 ≤ lb1) → (Cd (lg1 = 0) (lb1 - (lb + 2) ≤ st1 - st)) → (lb1 - lb ≤ st1 - st + 2 + be) → (1 ≤ le) → (le ≤ 19999) → (Cd (lb1 < 20000) (le = lb + 1)) → (1 ≤ lf) → (lf ≤ 19999) → (Cd (lb1 < 20000) (lf = lb + 2)) → (b4 = 8 * al) → (0 ≤ i) → (i ≤ T0 18 (n).toNat) → (n + 1 ≤ gm) → (gm ≤ hi) → (s0 ≤ gt) → (gt ≤ s1) → (fw1 = fw) → (FA F (nw) Ax) → (SA T0 Vs Sn Ax) → (LN2 T0 (wG T0 Vs sb (wP T0 sb pb k Vs)) (T0 18 (n).toNat) (n) (c) (i) (n + 1) (hi) (s0) (s1) (gm) (gt)) → (WE (i) (be)) → (0 ≤ be) → (be ≤ 112000) → (PE 58 (La) (b4) (i) Ax) → (LBd (La) (i)) → (Cd (lg1 = 0 ∧ lb1 < 19999) (gA1 T0 Ax (La) F Sn nw (n) ((i).toNat) (st) (st1) (lb + 2) (lb1))) → wj X d jm359 (40, L, [], rV c0 c1 Gx Ax T) (fun o V_q => ∃ (G_q : Nat → Int) (A_q : Nat → Nat → Int) (st2 : Int) (lg2 : Int) (lb2 : Int) (nw2 : Int) (al2 : Int) (fw2 : Int), V_q = rV c0 c1 G_q A_q T ∧ o = .inl none ∧ Wk G_q A_q ∧ Fr [70, 77, 79, 81, 89] [13, 44, 45, 46, 47, 50, 51, 56, 57, 58] G A G_q A_q ∧ Fx [44, 45, 46, 47] (st) A A_q ∧ Fx [58] (8 * al) A A_q ∧ Fx [56, 57] (8 * nw) A A_q ∧ G_q 70 = st2 ∧ G_q 79 = lg2 ∧ G_q 77 = lb2 ∧ G_q 81 = nw2 ∧ G_q 89 = al2 ∧ A_q 51 (nw).toNat = fw2 ∧ (st ≤ st2) ∧ (st2 ≤ 7000) ∧ (lg ≤ lg2) ∧ (lg2 ≤ 1) ∧ (lb ≤ lb2) ∧ (Cd (lg2 = 0) (lb2 - lb ≤ st2 - st)) ∧ (lb2 - lb ≤ st2 - st + bd) ∧ (Cd (lg2 = 0 ∧ lb2 < 19999) (Fx [50] (lb + 1) A A_q)) ∧ (nw2 = nw) ∧ (al2 = al) ∧ (fw2 = fw) ∧ (FA F (nw) A_q) ∧ (SA T0 Vs Sn A_q) ∧ (Cd (lg2 = 0 ∧ lb2 < 19999) (gAl T0 A_q F Sn nw (gP T0 A_q Q k F Sn nw) (n) (st) (st2) (lb) (lb2))) ∧ True) := by
  have hF0 : Fr [70, 77, 79, 81, 89] [13, 44, 45, 46, 47, 50, 51, 56, 57, 58] G A G A := Fr_rf
  have hC0 : Fx [44, 45, 46, 47] (st) A A := Fx_rf
  have hAl0 : Fx [58] (8 * al) A A := Fx_rf
  have hBp0 : Fx [56, 57] (8 * nw) A A := Fx_rf
  have b_st : (-2147483648 : Int) ≤ st ∧ st ≤ 2147483647 := e_st ▸ hW.1 70
  have b_lg : (0 : Int) ≤ lg ∧ lg ≤ 1 := e_lg ▸ hW.1 79
  have b_lb : (-2147483648 : Int) ≤ lb ∧ lb ≤ 2147483647 := e_lb ▸ hW.1 77
  have b_nw : (-2147483648 : Int) ≤ nw ∧ nw ≤ 2147483647 := e_nw ▸ hW.1 81
  have b_al : (-2147483648 : Int) ≤ al ∧ al ≤ 2147483647 := e_al ▸ hW.1 89
  have b_fw : (-2147483648 : Int) ≤ fw ∧ fw ≤ 2147483647 := e_fw ▸ hW.2 51 _
  have hWT := TA_w hW p_0
  have hBo0 : Cd (lg = 0 ∧ lb < 19999) (Fx [50] (lb + 1) A A) := Cd_mk (fun _ => Fx_rf)
  have hfw := FA_at p_1 p_4 e_fw
  have hbp := WB_p p_26 (by omega) (by omega) (by omega)
  intro m
  induction m using Nat.strongRecOn with
  | ind m ih40 =>
    intro L Gx Ax le lf b4 i c st1 lg1 lb1 fw1 gm gt be La hm gL_0 gL_1 gL_2 gL_3 gL_4 gL_5 gL_6 hWx hFx hCx hAlx hBpx hBox ex_st1 ex_lg1 ex_lb1 ex_fw1 fx_81 fx_89 rx_le rx_lf rx_b4 rx_i rx_c iv_0 iv_1 iv_2 iv_3 iv_4 iv_5 iv_6 iv_7 iv_8 iv_9 iv_10 iv_11 iv_12 iv_13 iv_14 iv_15 iv_16 iv_17 iv_18 iv_19 iv_20 iv_21 iv_22 iv_23 iv_24 iv_25 iv_26 iv_27 iv_28 iv_29
    have b_st1 : (-2147483648 : Int) ≤ st1 ∧ st1 ≤ 2147483647 := ex_st1 ▸ hWx.1 70
    have b_lg1 : (0 : Int) ≤ lg1 ∧ lg1 ≤ 1 := ex_lg1 ▸ hWx.1 79
    have b_lb1 : (-2147483648 : Int) ≤ lb1 ∧ lb1 ≤ 2147483647 := ex_lb1 ▸ hWx.1 77
    refine jx_ld (pc_q := 42) (l_q := L) (st_q := [.int (i32 (c))]) rfl (jl_iload gL_6) ?_
    refine jx_if_le (pc_q := 45) (tg := 161) rfl rfl rfl (Int.le_trans (by decide : (-2147483648 : Int) ≤ -2147483648) rx_c.1) (Int.le_trans rx_c.2 (by decide : (2147483647 : Int) ≤ 2147483647)) (fun h843 => ?_) (fun h843 => ?_)
    · have _q := h843
      have hie := LN2_end iv_23 (by omega)
      have _q : True := trivial
      refine jx_ld (pc_q := 162) (l_q := L) (st_q := [.ref 66]) rfl (jl_aloadn gL_0) ?_
      refine jx_ar (pc_q := 164) (st_q := [.int (i32 (22)), .ref 66]) rfl rfl rfl rfl ?_
      refine jx_vr (pc_q := 167) (as := [.int (i32 (22))]) (st := []) rfl rfl rfl rfl ⟨rfl, rfl, Nat.le_of_ble_eq_true rfl⟩ rfl rfl (c_op (dd := d) (hd := by omega) (hW := hWx) (oo := 22) (st := st1) (e_st := show Gx 70 = st1 from (ex_st1)) (lg := lg1) (e_lg := show Gx 79 = lg1 from (ex_lg1))  (h_oo := ⟨(by decide), (by decide)⟩)  (p_0 := by omega) (p_1 := by omega)) (fun o V_q hq => ?_)
      obtain ⟨G844, A845, st2_846, lg2_847, rfl, rfl, hW848, hF849, hQ850, e851, e852, p853, p854, p855, p856, p857, p858, -⟩ := hq
      have hF860 := Fr_tr hFx hF849 (Fr_sub (by decide)) (Fr_sub (by decide))
      have hC861 := Fx_tr hCx hQ850 (by omega)
      have hAl862 := Fx_f hAlx hF849 (by decide)
      have hBp863 := Fx_f hBpx hF849 (by decide)
      have sf864 := FA_fr (hF849.2 51 rfl) iv_21
      have sf865 := SA_fr (hF849.2 13 rfl) iv_22
      have sf866 : PE 58 (La) (b4) (i) A845 := PE_fr (hF849.2 58 rfl) iv_27
      have bst2_846 : (-2147483648 : Int) ≤ st2_846 ∧ st2_846 ≤ 2147483647 := e851 ▸ hW848.1 70
      have blg2_847 : (0 : Int) ≤ lg2_847 ∧ lg2_847 ≤ 1 := e852 ▸ hW848.1 79
      refine .inl ⟨rfl, ?_⟩
      have sf867 : Cd (lg2_847 = 0 ∧ lb1 < 19999) (gA1 T0 A845 (La) F Sn nw (n) ((i).toNat) (st) (st1) (lb + 2) (lb1)) := Cd_mk (fun hC => gA1_mv (Cg_fx (l0 := lb + 2) (l1 := lb1) hQ850 (Fx_f (w := lb1 + 1) Fx_rf hF849 (by decide)) (by omega)) (by omega) (Cd_ap iv_29 (by omega)))
      have hBo868 : Cd (lg2_847 = 0 ∧ lb1 < 19999) (Fx [50] (lb + 1) A A845) := Cd_mk (fun hC => Fx_f (Cd_ap hBox (by omega)) hF849 (by decide))
      have _q : True := trivial
      refine jx_ar (pc_q := 168) (st_q := [.int (i32 (0))]) rfl rfl rfl rfl ?_
      refine jx_ld (pc_q := 170) (l_q := jSto1 L 5 (.int (i32 (0)))) (st_q := []) rfl rfl ?_
      obtain ⟨L869, eL869⟩ : ∃ q, q = jSto1 L 5 (.int (i32 (0))) := ⟨_, rfl⟩
      rw [← eL869]
      have gL869_0 : jGet L869 0 = some (.ref 66) := eL869 ▸ jg_ne (by decide) gL_0 rfl
      have gL869_1 : jGet L869 1 = some (.int (i32 (n))) := eL869 ▸ jg_ne (by decide) gL_1 rfl
      have gL869_2 : jGet L869 2 = some (.int (i32 (le))) := eL869 ▸ jg_ne (by decide) gL_2 rfl
      have gL869_3 : jGet L869 3 = some (.int (i32 (lf))) := eL869 ▸ jg_ne (by decide) gL_3 rfl
      have gL869_4 : jGet L869 4 = some (.int (i32 (b4))) := eL869 ▸ jg_ne (by decide) gL_4 rfl
      have gL869_6 : jGet L869 6 = some (.int (i32 (c))) := eL869 ▸ jg_ne (by decide) gL_6 rfl
      have gL869_5 : jGet L869 5 = some (.int (i32 (0))) := eL869 ▸ jg_eq
      refine jx_ld (pc_q := 171) (l_q := L869) (st_q := [.ref 66]) rfl (jl_aloadn gL869_0) ?_
      refine jr_get (pc_q := 174) (i := 38) (v := .ref 88) rfl rfl (by decide) rfl rfl ?_
      refine jx_ld (pc_q := 175) (l_q := L869) (st_q := [.int (i32 (n)), .ref 88]) rfl (jl_iloadn gL869_1) ?_
      have b870 : (-2147483648 : Int) ≤ T0 21 (n).toNat ∧ T0 21 (n).toNat ≤ 2147483647 := hWT.2 21 _
      refine jr_ldv (pc_q := 176) (i := 21) (m := 7000) (z := n) (y := T0 21 (n).toNat) rfl (by decide) rfl (by decide) (by omega) (by omega) rfl (show A845 21 (n).toNat = T0 21 (n).toNat from (congrFun ((hF849.2 21 rfl).trans ((hFx.2 21 rfl).trans (p_0 21 rfl))) _)) ?_
      refine jx_ld (pc_q := 178) (l_q := jSto1 L869 6 (.int (i32 (T0 21 (n).toNat)))) (st_q := []) rfl rfl ?_
      obtain ⟨L871, eL871⟩ : ∃ q, q = jSto1 L869 6 (.int (i32 (T0 21 (n).toNat))) := ⟨_, rfl⟩
      rw [← eL871]
      have gL871_0 : jGet L871 0 = some (.ref 66) := eL871 ▸ jg_ne (by decide) gL869_0 rfl
      have gL871_1 : jGet L871 1 = some (.int (i32 (n))) := eL871 ▸ jg_ne (by decide) gL869_1 rfl
      have gL871_2 : jGet L871 2 = some (.int (i32 (le))) := eL871 ▸ jg_ne (by decide) gL869_2 rfl
      have gL871_3 : jGet L871 3 = some (.int (i32 (lf))) := eL871 ▸ jg_ne (by decide) gL869_3 rfl
      have gL871_4 : jGet L871 4 = some (.int (i32 (b4))) := eL871 ▸ jg_ne (by decide) gL869_4 rfl
      have gL871_5 : jGet L871 5 = some (.int (i32 (0))) := eL871 ▸ jg_ne (by decide) gL869_5 rfl
      have gL871_6 : jGet L871 6 = some (.int (i32 (T0 21 (n).toNat))) := eL871 ▸ jg_eq
      exact c_genAlt_at_178 (X := X) (k := k) (hN := hN) (d := d) (T0 := T0) (Q := Q) (F := F) (Sn := Sn) (Vs := Vs) (sb := sb) (pb := pb) (c0 := c0) (c1 := c1) (G := G) (A := A) (T := T) (n := n) (hi := hi) (s0 := s0) (s1 := s1) (fr := fr) (z := z) (D := D) (bd := bd) (st := st) (lg := lg) (lb := lb) (nw := nw) (al := al) (fw := fw) (hd := hd) (hW := hW) (e_st := e_st) (e_lg := e_lg) (e_lb := e_lb) (e_nw := e_nw) (e_al := e_al) (e_fw := e_fw) (h_n := h_n) (p_0 := p_0) (p_1 := p_1) (p_2 := p_2) (p_3 := p_3) (p_4 := p_4) (p_5 := p_5) (p_6 := p_6) (p_7 := p_7) (p_8 := p_8) (p_9 := p_9) (p_10 := p_10) (p_11 := p_11) (p_12 := p_12) (p_13 := p_13) (p_14 := p_14) (p_15 := p_15) (p_16 := p_16) (p_17 := p_17) (p_18 := p_18) (p_19 := p_19) (p_20 := p_20) (p_21 := p_21) (p_22 := p_22) (p_23 := p_23) (p_24 := p_24) (p_25 := p_25) (p_26 := p_26) (p_27 := p_27) (p_28 := p_28) (p_29 := p_29) (p_30 := p_30) (p_31 := p_31) (p_32 := p_32) (p_33 := p_33) (p_34 := p_34) (p_35 := p_35) _ L871 G844 A845 (le) (lf) (b4) (0) (T0 21 (n).toNat) (st2_846) (lg2_847) (lb1) (fw1) (n + 1) (s0) (st1) (st2_846) (La) rfl gL871_0 gL871_1 gL871_2 gL871_3 gL871_4 gL871_5 gL871_6 hW848 hF860 hC861 hAl862 hBp863 (Cd_mk (fun hC => Cd_ap hBo868 (by omega))) ((e851)) ((e852)) (((hF849.1 77 rfl).trans (ex_lb1))) ((congrFun (hF849.2 51 rfl) _).trans (ex_fw1)) (((hF849.1 81 rfl).trans (fx_81))) (((hF849.1 89 rfl).trans (fx_89))) (by omega) (by omega) (by omega) (by omega) (by omega) (by omega) (by omega) (by omega) (by omega) (by omega) ((Cd_mk (fun hC => by have := Cd_ap iv_5 (by omega); omega))) (by omega) (by omega) (by omega) ((Cd_mk (fun hC => (by have hr := Cd_ap iv_9 (by omega); omega)))) (by omega) (by omega) ((Cd_mk (fun hC => (by have hr := Cd_ap iv_12 (by omega); omega)))) (by omega) (by omega) (by omega) (by omega) (by omega) (by omega) (by omega) (by omega) (sf864) (sf865) (p_21) (by omega) (by omega) ((PE_i (by omega) sf866)) ((LBd_i (by omega) iv_28)) ((Cd_mk (fun hC => (gA1_i (by omega) (Cd_ap sf867 (by omega)))))) ((Cd_mk (fun hC => (Cd_ap p858 (by omega))))) ((Cd_mk (fun hC => (gA2_0 rfl (by omega)))))
    · have _q := h843
      obtain ⟨hi0, hi1, hcx, m1, t1, q1, q2, q3, q4, q5, q6, ⟨i1, i2, x, i3, i4, i5, i6⟩, hnx⟩ := LN2_hd iv_23 (by omega); have hmt : (hi - m1).toNat < m := mt_lt hm (by omega) (by omega); have hbw := WE_nx (i_q := i + 1) (b_q := be + 14000) iv_24 rfl rfl; have hbw2 := WE_b hbw (by omega) (by omega)
      refine jx_ld (pc_q := 46) (l_q := L) (st_q := [.ref 66]) rfl (jl_aloadn gL_0) ?_
      refine jr_get (pc_q := 49) (i := 88) (v := .ref 125) rfl rfl (by decide) rfl rfl ?_
      refine jx_ld (pc_q := 51) (l_q := L) (st_q := [.int (i32 (b4)), .ref 125]) rfl (jl_iload gL_4) ?_
      refine jx_ld (pc_q := 53) (l_q := L) (st_q := [.int (i32 (i)), .int (i32 (b4)), .ref 125]) rfl (jl_iload gL_5) ?_
      refine jx_add (pc_q := 54) rfl rfl ?_
      refine jx_ld (pc_q := 55) (l_q := L) (st_q := [.ref 66, .int (i32 ((b4 + i))), .ref 125]) rfl (jl_aloadn gL_0) ?_
      refine jx_vr (pc_q := 58) (as := []) (st := [.int (i32 ((b4 + i))), .ref 125]) rfl rfl rfl rfl ⟨rfl, rfl, Nat.le_of_ble_eq_true rfl⟩ rfl rfl (c_label (dd := d) (hd := by omega) (hW := hWx)  (lb := lb1) (e_lb := show Gx 77 = lb1 from (ex_lb1))    (p_0 := by omega) (p_1 := by omega)) (fun o V_q hq => ?_)
      obtain ⟨G872, A873, r874, lb2_875, rfl, rfl, hW876, hF877, b878, e879, p880, p881, p882, p883, -⟩ := hq
      have hF885 := Fr_tr hFx hF877 (Fr_sub (by decide)) (Fr_sub (by decide))
      have hC886 := Fx_f hCx hF877 (by decide)
      have hAl887 := Fx_f hAlx hF877 (by decide)
      have hBp888 := Fx_f hBpx hF877 (by decide)
      have sf889 := FA_fr (hF877.2 51 rfl) iv_21
      have sf890 := SA_fr (hF877.2 13 rfl) iv_22
      have sf891 : PE 58 (La) (b4) (i) A873 := PE_fr (hF877.2 58 rfl) iv_27
      have blb2_875 : (-2147483648 : Int) ≤ lb2_875 ∧ lb2_875 ≤ 2147483647 := e879 ▸ hW876.1 77
      refine .inr ⟨_, rfl, ?_⟩
      have sf892 : Cd (lg1 = 0 ∧ lb2_875 < 19999) (gA1 T0 A873 (La) F Sn nw (n) ((i).toNat) (st) (st1) (lb + 2) (lb1)) := Cd_mk (fun hC => gA1_mv (Cg_fx (l0 := lb + 2) (l1 := lb1) (Fx_f (w := st1) Fx_rf hF877 (by decide)) (Fx_f (w := lb1 + 1) Fx_rf hF877 (by decide)) (by omega)) (by omega) (Cd_ap iv_29 (by omega)))
      have hBo893 : Cd (lg1 = 0 ∧ lb2_875 < 19999) (Fx [50] (lb + 1) A A873) := Cd_mk (fun hC => Fx_f (Cd_ap hBox (by omega)) hF877 (by decide))
      have _q : True := trivial
      refine jr_st (pc_q := 59) (i := 58) (m := 320) (z := (b4 + i)) (y := r874) rfl (by decide) rfl (by decide) (by omega) (by omega) rfl ?_
      have hW895 : Wk G872 (uA A873 58 ((b4 + i)).toNat (r874)) := Wk_a hW876 (show (-2147483648 : Int) ≤ r874 by omega) (show r874 ≤ (2147483647 : Int) by omega)
      have hF896 := Fr_a (z := r874) (k := 58) (n := ((b4 + i)).toNat) hF885 (by decide)
      obtain ⟨A894, eA894⟩ : ∃ q, q = uA A873 58 ((b4 + i)).toNat (r874) := ⟨_, rfl⟩
      rw [← eA894]
      rw [← eA894] at hW895 hF896
      have q897 : A894 58 ((b4 + i)).toNat = r874 := by rw [eA894]; exact uA_eq
      have hC898 : Fx [44, 45, 46, 47] (st) A A894 := eA894 ▸ Fx_n hC886 rfl
      have hAl899 : Fx [58] (8 * al) A A894 := eA894 ▸ Fx_a hAl887 (z := (b4 + i)) (by omega) (by omega)
      have hBp900 : Fx [56, 57] (8 * nw) A A894 := eA894 ▸ Fx_n hBp888 rfl
      have sf901 := FA_fr ((congrFun eA894 51).trans (uA_ne (by decide))) sf889
      have sf902 := SA_fr ((congrFun eA894 13).trans (uA_ne (by decide))) sf890
      have sf903 : PE 58 (upf La i r874) (b4) ((i + 1)) A894 := PE_nx eA894 (by omega) (by omega) (by omega) (by omega) upf_e (PE_up sf891)
      have sf904 : Cd (lg1 = 0 ∧ lb2_875 < 19999) (gA1 T0 A894 (La) F Sn nw (n) ((i).toNat) (st) (st1) (lb + 2) (lb1)) := Cd_mk (fun hC => gA1_mv (Cg_ne (K := st1) eA894 rfl) (Int.le_refl _) (Cd_ap sf892 (by omega)))
      have hBo905 : Cd (lg1 = 0 ∧ lb2_875 < 19999) (Fx [50] (lb + 1) A A894) := Cd_mk (fun hC => Fx_un eA894 (Cd_ap hBo893 (by omega)) rfl)
      have _q : True := trivial
      refine jx_ld (pc_q := 60) (l_q := L) (st_q := [.ref 66]) rfl (jl_aloadn gL_0) ?_
      rcases i6 with ⟨k1, a, k2, k3, k4, k5⟩ | ⟨⟨k1, k1b⟩, k2⟩ | ⟨a, b, k1, k2, k3, k4, k5, k6⟩
      · have _q : True := trivial
        have hk18 := wR_kd k4
        refine jr_get (pc_q := 63) (i := 34) (v := .ref 84) rfl rfl (by decide) rfl rfl ?_
        refine jx_ld (pc_q := 65) (l_q := L) (st_q := [.int (i32 (c)), .ref 84]) rfl (jl_iload gL_6) ?_
        have b906 : (-2147483648 : Int) ≤ T0 17 (c).toNat ∧ T0 17 (c).toNat ≤ 2147483647 := hWT.2 17 _
        refine jr_ldv (pc_q := 66) (i := 17) (m := 7000) (z := c) (y := T0 17 (c).toNat) rfl (by decide) rfl (by decide) (by omega) (by omega) rfl (show A894 17 (c).toNat = T0 17 (c).toNat from (congrFun (((congrFun eA894 17).trans (uA_ne (by decide))).trans ((hF877.2 17 rfl).trans ((hFx.2 17 rfl).trans (p_0 17 rfl)))) _)) ?_
        refine jx_if_le (pc_q := 69) (tg := 83) rfl rfl rfl (Int.le_trans (by decide : (-2147483648 : Int) ≤ -2147483648) b906.1) (Int.le_trans b906.2 (by decide : (2147483647 : Int) ≤ 2147483647)) (fun h907 => ?_) (fun h907 => ?_)
        · have _q := h907
          refine jx_ld (pc_q := 84) (l_q := L) (st_q := [.ref 66]) rfl (jl_aloadn gL_0) ?_
          refine jx_ar (pc_q := 85) (st_q := [.int (i32 (4)), .ref 66]) rfl rfl rfl rfl ?_
          refine jx_ar (pc_q := 86) (st_q := [.int (i32 (1)), .int (i32 (4)), .ref 66]) rfl rfl rfl rfl ?_
          refine jx_vr (pc_q := 89) (as := [.int (i32 (4)), .int (i32 (1))]) (st := []) rfl rfl rfl rfl ⟨rfl, rfl, Nat.le_of_ble_eq_true rfl⟩ rfl rfl (c_emit (dd := d) (hd := by omega) (hW := hW895) (fn := 4) (v := 1) (st := st1) (e_st := show G872 70 = st1 from ((hF877.1 70 rfl).trans (ex_st1))) (lg := lg1) (e_lg := show G872 79 = lg1 from ((hF877.1 79 rfl).trans (ex_lg1)))  (h_fn := ⟨(by decide), (by decide)⟩) (h_v := ⟨(by decide), (by decide)⟩)  (p_0 := by omega) (p_1 := by omega)) (fun o V_q hq => ?_)
          obtain ⟨G908, A909, st2_910, lg2_911, rfl, rfl, hW912, hF913, hQ914, e915, e916, p917, p918, p919, p920, p921, p922, -⟩ := hq
          have hF924 := Fr_tr hF896 hF913 (Fr_sub (by decide)) (Fr_sub (by decide))
          have hC925 := Fx_tr hC898 hQ914 (by omega)
          have hAl926 := Fx_f hAl899 hF913 (by decide)
          have hBp927 := Fx_f hBp900 hF913 (by decide)
          have sf928 := FA_fr (hF913.2 51 rfl) sf901
          have sf929 := SA_fr (hF913.2 13 rfl) sf902
          have sf930 : PE 58 (upf La i r874) (b4) ((i + 1)) A909 := PE_fr (hF913.2 58 rfl) sf903
          have bst2_910 : (-2147483648 : Int) ≤ st2_910 ∧ st2_910 ≤ 2147483647 := e915 ▸ hW912.1 70
          have blg2_911 : (0 : Int) ≤ lg2_911 ∧ lg2_911 ≤ 1 := e916 ▸ hW912.1 79
          refine .inl ⟨rfl, ?_⟩
          have sf931 : Cd (lg2_911 = 0 ∧ lb2_875 < 19999) (gA1 T0 A909 (La) F Sn nw (n) ((i).toNat) (st) (st1) (lb + 2) (lb1)) := Cd_mk (fun hC => gA1_mv (Cg_fx (l0 := lb + 2) (l1 := lb1) hQ914 (Fx_f (w := lb1 + 1) Fx_rf hF913 (by decide)) (by omega)) (by omega) (Cd_ap sf904 (by omega)))
          have hBo932 : Cd (lg2_911 = 0 ∧ lb2_875 < 19999) (Fx [50] (lb + 1) A A909) := Cd_mk (fun hC => Fx_f (Cd_ap hBo905 (by omega)) hF913 (by decide))
          refine jx_ld (pc_q := 90) (l_q := L) (st_q := [.ref 66]) rfl (jl_aloadn gL_0) ?_
          refine jx_ar (pc_q := 92) (st_q := [.int (i32 (13)), .ref 66]) rfl rfl rfl rfl ?_
          refine jx_ld (pc_q := 93) (l_q := L) (st_q := [.ref 66, .int (i32 (13)), .ref 66]) rfl (jl_aloadn gL_0) ?_
          refine jr_get (pc_q := 96) (i := 42) (v := .ref 92) rfl rfl (by decide) rfl rfl ?_
          refine jx_ld (pc_q := 97) (l_q := L) (st_q := [.int (i32 (n)), .ref 92, .int (i32 (13)), .ref 66]) rfl (jl_iloadn gL_1) ?_
          have b933 : (-2147483648 : Int) ≤ T0 25 (n).toNat ∧ T0 25 (n).toNat ≤ 2147483647 := hWT.2 25 _
          refine jr_ldv (pc_q := 98) (i := 25) (m := 7000) (z := n) (y := T0 25 (n).toNat) rfl (by decide) rfl (by decide) (by omega) (by omega) rfl (show A909 25 (n).toNat = T0 25 (n).toNat from (congrFun ((hF913.2 25 rfl).trans (((congrFun eA894 25).trans (uA_ne (by decide))).trans ((hF877.2 25 rfl).trans ((hFx.2 25 rfl).trans (p_0 25 rfl))))) _)) ?_
          refine jx_ar (pc_q := 99) (st_q := [.int (i32 (2)), .int (i32 (T0 25 (n).toNat)), .int (i32 (13)), .ref 66]) rfl rfl rfl rfl ?_
          refine jx_ld (pc_q := 101) (l_q := L) (st_q := [.int (i32 (i)), .int (i32 (2)), .int (i32 (T0 25 (n).toNat)), .int (i32 (13)), .ref 66]) rfl (jl_iload gL_5) ?_
          refine jx_mul (pc_q := 102) rfl rfl ?_
          refine jx_add (pc_q := 103) rfl rfl ?_
          refine jx_vr (pc_q := 106) (as := [.int (i32 (13)), .int (i32 ((T0 25 (n).toNat + (2 * i))))]) (st := []) rfl rfl rfl rfl ⟨rfl, rfl, Nat.le_of_ble_eq_true rfl⟩ rfl rfl (c_emit (dd := d) (hd := by omega) (hW := hW912) (fn := 13) (v := (T0 25 (n).toNat + (2 * i))) (st := st2_910) (e_st := show G908 70 = st2_910 from (e915)) (lg := lg2_911) (e_lg := show G908 79 = lg2_911 from (e916))  (h_fn := ⟨(by decide), (by decide)⟩) (h_v := ⟨(by omega), (by omega)⟩)  (p_0 := by omega) (p_1 := by omega)) (fun o V_q hq => ?_)
          obtain ⟨G934, A935, st2_936, lg2_937, rfl, rfl, hW938, hF939, hQ940, e941, e942, p943, p944, p945, p946, p947, p948, -⟩ := hq
          have hF950 := Fr_tr hF924 hF939 (Fr_sub (by decide)) (Fr_sub (by decide))
          have hC951 := Fx_tr hC925 hQ940 (by omega)
          have hAl952 := Fx_f hAl926 hF939 (by decide)
          have hBp953 := Fx_f hBp927 hF939 (by decide)
          have sf954 := FA_fr (hF939.2 51 rfl) sf928
          have sf955 := SA_fr (hF939.2 13 rfl) sf929
          have sf956 : PE 58 (upf La i r874) (b4) ((i + 1)) A935 := PE_fr (hF939.2 58 rfl) sf930
          have bst2_936 : (-2147483648 : Int) ≤ st2_936 ∧ st2_936 ≤ 2147483647 := e941 ▸ hW938.1 70
          have blg2_937 : (0 : Int) ≤ lg2_937 ∧ lg2_937 ≤ 1 := e942 ▸ hW938.1 79
          refine .inl ⟨rfl, ?_⟩
          have sf957 : Cd (lg2_937 = 0 ∧ lb2_875 < 19999) (gA1 T0 A935 (La) F Sn nw (n) ((i).toNat) (st) (st1) (lb + 2) (lb1)) := Cd_mk (fun hC => gA1_mv (Cg_fx (l0 := lb + 2) (l1 := lb1) hQ940 (Fx_f (w := lb1 + 1) Fx_rf hF939 (by decide)) (by omega)) (by omega) (Cd_ap sf931 (by omega)))
          have sf958 : Cd (lg2_937 = 0 ∧ lb2_875 < 19999) (ST A935 (st1) (st2_910) (4) (1)) := Cd_mk (fun hC => ST_mv (Cg_fx (l0 := 0) (l1 := 0) hQ940 (Fx_f (w := 0 + 1) Fx_rf hF939 (by decide)) (by omega)) (by omega) (Cd_ap p922 (by omega)))
          have hBo959 : Cd (lg2_937 = 0 ∧ lb2_875 < 19999) (Fx [50] (lb + 1) A A935) := Cd_mk (fun hC => Fx_f (Cd_ap hBo932 (by omega)) hF939 (by decide))
          refine jx_ld (pc_q := 107) (l_q := L) (st_q := [.ref 66]) rfl (jl_aloadn gL_0) ?_
          refine jr_get (pc_q := 110) (i := 35) (v := .ref 85) rfl rfl (by decide) rfl rfl ?_
          refine jx_ld (pc_q := 112) (l_q := L) (st_q := [.int (i32 (c)), .ref 85]) rfl (jl_iload gL_6) ?_
          have b960 : (-2147483648 : Int) ≤ T0 18 (c).toNat ∧ T0 18 (c).toNat ≤ 2147483647 := hWT.2 18 _
          refine jr_ldv (pc_q := 113) (i := 18) (m := 7000) (z := c) (y := T0 18 (c).toNat) rfl (by decide) rfl (by decide) (by omega) (by omega) rfl (show A935 18 (c).toNat = T0 18 (c).toNat from (congrFun ((hF939.2 18 rfl).trans ((hF913.2 18 rfl).trans (((congrFun eA894 18).trans (uA_ne (by decide))).trans ((hF877.2 18 rfl).trans ((hFx.2 18 rfl).trans (p_0 18 rfl)))))) _)) ?_
          refine jx_if_le (pc_q := 116) (tg := 146) rfl rfl rfl (Int.le_trans (by decide : (-2147483648 : Int) ≤ -2147483648) b960.1) (Int.le_trans b960.2 (by decide : (2147483647 : Int) ≤ 2147483647)) (fun h961 => ?_) (fun h961 => ?_)
          · have _q := h961
            exfalso
            omega
          · have _q := h961
            have _q : True := trivial
            refine jx_ld (pc_q := 117) (l_q := L) (st_q := [.ref 66]) rfl (jl_aloadn gL_0) ?_
            refine jx_ld (pc_q := 118) (l_q := L) (st_q := [.ref 66, .ref 66]) rfl (jl_aloadn gL_0) ?_
            refine jr_get (pc_q := 121) (i := 35) (v := .ref 85) rfl rfl (by decide) rfl rfl ?_
            refine jx_ld (pc_q := 123) (l_q := L) (st_q := [.int (i32 (c)), .ref 85, .ref 66]) rfl (jl_iload gL_6) ?_
            refine jr_ldv (pc_q := 124) (i := 18) (m := 7000) (z := c) (y := T0 18 (c).toNat) rfl (by decide) rfl (by decide) (by omega) (by omega) rfl (show A935 18 (c).toNat = T0 18 (c).toNat from (congrFun ((hF939.2 18 rfl).trans ((hF913.2 18 rfl).trans (((congrFun eA894 18).trans (uA_ne (by decide))).trans ((hF877.2 18 rfl).trans ((hFx.2 18 rfl).trans (p_0 18 rfl)))))) _)) ?_
            refine jx_vr (pc_q := 127) (as := [.int (i32 (T0 18 (c).toNat))]) (st := []) rfl rfl rfl rfl ⟨rfl, rfl, Nat.le_of_ble_eq_true rfl⟩ rfl rfl (c_genAddress (dd := d) (k := 20) (hG := GE_all X 20) (hd := by omega) (hW := hW938) (x := T0 18 (c).toNat) (lo := c + 1) (hi := a) (st := st2_936) (e_st := show G934 70 = st2_936 from (e941)) (lg := lg2_937) (e_lg := show G934 79 = lg2_937 from (e942)) (lb := lb2_875) (e_lb := show G934 77 = lb2_875 from ((hF939.1 77 rfl).trans ((hF913.1 77 rfl).trans (e879)))) (nw := nw) (e_nw := show G934 81 = nw from ((hF939.1 81 rfl).trans ((hF913.1 81 rfl).trans ((hF877.1 81 rfl).trans (fx_81)))))  (h_x := ⟨(Int.le_trans (by decide : (-2147483648 : Int) ≤ -2147483648) b960.1), (Int.le_trans b960.2 (by decide : (2147483647 : Int) ≤ 2147483647))⟩)  (p_0 := (TA_fr hF950 (by decide) p_0)) (p_1 := sf954) (p_2 := sf955) (p_3 := p_3) (p_4 := by omega) (p_5 := by omega) (p_6 := by omega) (p_7 := by omega) (p_8 := by omega) (p_9 := by omega) (p_10 := by omega) (p_11 := by omega) (p_12 := by omega) (p_13 := (pX_wR k4)) (p_14 := by omega)) (fun o V_q hq => ?_)
            obtain ⟨G962, A963, st2_964, lg2_965, lb2_966, rfl, rfl, hW967, hF968, hQ969, e970, e971, e972, p973, p974, p975, p976, p977, p978, p979, p980, p981, -⟩ := hq
            have hF983 := Fr_tr hF950 hF968 (Fr_sub (by decide)) (Fr_sub (by decide))
            have hC984 := Fx_tr hC951 hQ969 (by omega)
            have hAl985 := Fx_f hAl952 hF968 (by decide)
            have hBp986 := Fx_f hBp953 hF968 (by decide)
            have sf987 := FA_fr (hF968.2 51 rfl) sf954
            have sf988 := SA_fr (hF968.2 13 rfl) sf955
            have sf989 : PE 58 (upf La i r874) (b4) ((i + 1)) A963 := PE_fr (hF968.2 58 rfl) sf956
            have bst2_964 : (-2147483648 : Int) ≤ st2_964 ∧ st2_964 ≤ 2147483647 := e970 ▸ hW967.1 70
            have blg2_965 : (0 : Int) ≤ lg2_965 ∧ lg2_965 ≤ 1 := e971 ▸ hW967.1 79
            have blb2_966 : (-2147483648 : Int) ≤ lb2_966 ∧ lb2_966 ≤ 2147483647 := e972 ▸ hW967.1 77
            refine .inl ⟨rfl, ?_⟩
            have sf990 : Cd (lg2_965 = 0 ∧ lb2_966 < 19999) (gA1 T0 A963 (La) F Sn nw (n) ((i).toNat) (st) (st1) (lb + 2) (lb1)) := Cd_mk (fun hC => gA1_mv (Cg_fx (l0 := lb + 2) (l1 := lb1) hQ969 (Cd_ap p980 (by omega)) (by omega)) (by omega) (Cd_ap sf957 (by omega)))
            have sf991 : Cd (lg2_965 = 0 ∧ lb2_966 < 19999) (ST A963 (st1) (st2_910) (4) (1)) := Cd_mk (fun hC => ST_mv (Cg_fx (l0 := 0) (l1 := 0) hQ969 (Cd_ap p980 (by omega)) (by omega)) (by omega) (Cd_ap sf958 (by omega)))
            have sf992 : Cd (lg2_965 = 0 ∧ lb2_966 < 19999) (ST A963 (st2_910) (st2_936) (13) (T0 25 (n).toNat + (2 * i))) := Cd_mk (fun hC => ST_mv (Cg_fx (l0 := 0) (l1 := 0) hQ969 (Cd_ap p980 (by omega)) (by omega)) (by omega) (Cd_ap p948 (by omega)))
            have hBo993 : Cd (lg2_965 = 0 ∧ lb2_966 < 19999) (Fx [50] (lb + 1) A A963) := Cd_mk (fun hC => Fx_tr (Cd_ap hBo959 (by omega)) (Cd_ap p980 (by omega)) (by omega))
            refine jx_ld (pc_q := 128) (l_q := L) (st_q := [.ref 66]) rfl (jl_aloadn gL_0) ?_
            refine jx_ar (pc_q := 130) (st_q := [.int (i32 (13)), .ref 66]) rfl rfl rfl rfl ?_
            refine jx_ld (pc_q := 131) (l_q := L) (st_q := [.ref 66, .int (i32 (13)), .ref 66]) rfl (jl_aloadn gL_0) ?_
            refine jr_get (pc_q := 134) (i := 42) (v := .ref 92) rfl rfl (by decide) rfl rfl ?_
            refine jx_ld (pc_q := 135) (l_q := L) (st_q := [.int (i32 (n)), .ref 92, .int (i32 (13)), .ref 66]) rfl (jl_iloadn gL_1) ?_
            refine jr_ldv (pc_q := 136) (i := 25) (m := 7000) (z := n) (y := T0 25 (n).toNat) rfl (by decide) rfl (by decide) (by omega) (by omega) rfl (show A963 25 (n).toNat = T0 25 (n).toNat from (congrFun ((hF968.2 25 rfl).trans ((hF939.2 25 rfl).trans ((hF913.2 25 rfl).trans (((congrFun eA894 25).trans (uA_ne (by decide))).trans ((hF877.2 25 rfl).trans ((hFx.2 25 rfl).trans (p_0 25 rfl))))))) _)) ?_
            refine jx_ar (pc_q := 137) (st_q := [.int (i32 (2)), .int (i32 (T0 25 (n).toNat)), .int (i32 (13)), .ref 66]) rfl rfl rfl rfl ?_
            refine jx_ld (pc_q := 139) (l_q := L) (st_q := [.int (i32 (i)), .int (i32 (2)), .int (i32 (T0 25 (n).toNat)), .int (i32 (13)), .ref 66]) rfl (jl_iload gL_5) ?_
            refine jx_mul (pc_q := 140) rfl rfl ?_
            refine jx_add (pc_q := 141) rfl rfl ?_
            refine jx_ar (pc_q := 142) (st_q := [.int (i32 (1)), .int (i32 ((T0 25 (n).toNat + (2 * i)))), .int (i32 (13)), .ref 66]) rfl rfl rfl rfl ?_
            refine jx_add (pc_q := 143) rfl rfl ?_
            refine jx_vr (pc_q := 146) (as := [.int (i32 (13)), .int (i32 (((T0 25 (n).toNat + (2 * i)) + 1)))]) (st := []) rfl rfl rfl rfl ⟨rfl, rfl, Nat.le_of_ble_eq_true rfl⟩ rfl rfl (c_emit (dd := d) (hd := by omega) (hW := hW967) (fn := 13) (v := ((T0 25 (n).toNat + (2 * i)) + 1)) (st := st2_964) (e_st := show G962 70 = st2_964 from (e970)) (lg := lg2_965) (e_lg := show G962 79 = lg2_965 from (e971))  (h_fn := ⟨(by decide), (by decide)⟩) (h_v := ⟨(by omega), (by omega)⟩)  (p_0 := by omega) (p_1 := by omega)) (fun o V_q hq => ?_)
            obtain ⟨G994, A995, st2_996, lg2_997, rfl, rfl, hW998, hF999, hQ1000, e1001, e1002, p1003, p1004, p1005, p1006, p1007, p1008, -⟩ := hq
            have hF1010 := Fr_tr hF983 hF999 (Fr_sub (by decide)) (Fr_sub (by decide))
            have hC1011 := Fx_tr hC984 hQ1000 (by omega)
            have hAl1012 := Fx_f hAl985 hF999 (by decide)
            have hBp1013 := Fx_f hBp986 hF999 (by decide)
            have sf1014 := FA_fr (hF999.2 51 rfl) sf987
            have sf1015 := SA_fr (hF999.2 13 rfl) sf988
            have sf1016 : PE 58 (upf La i r874) (b4) ((i + 1)) A995 := PE_fr (hF999.2 58 rfl) sf989
            have bst2_996 : (-2147483648 : Int) ≤ st2_996 ∧ st2_996 ≤ 2147483647 := e1001 ▸ hW998.1 70
            have blg2_997 : (0 : Int) ≤ lg2_997 ∧ lg2_997 ≤ 1 := e1002 ▸ hW998.1 79
            refine .inl ⟨rfl, ?_⟩
            have sf1017 : Cd (lg2_997 = 0 ∧ lb2_966 < 19999) (gA1 T0 A995 (La) F Sn nw (n) ((i).toNat) (st) (st1) (lb + 2) (lb1)) := Cd_mk (fun hC => gA1_mv (Cg_fx (l0 := lb + 2) (l1 := lb1) hQ1000 (Fx_f (w := lb1 + 1) Fx_rf hF999 (by decide)) (by omega)) (by omega) (Cd_ap sf990 (by omega)))
            have sf1018 : Cd (lg2_997 = 0 ∧ lb2_966 < 19999) (ST A995 (st1) (st2_910) (4) (1)) := Cd_mk (fun hC => ST_mv (Cg_fx (l0 := 0) (l1 := 0) hQ1000 (Fx_f (w := 0 + 1) Fx_rf hF999 (by decide)) (by omega)) (by omega) (Cd_ap sf991 (by omega)))
            have sf1019 : Cd (lg2_997 = 0 ∧ lb2_966 < 19999) (ST A995 (st2_910) (st2_936) (13) (T0 25 (n).toNat + (2 * i))) := Cd_mk (fun hC => ST_mv (Cg_fx (l0 := 0) (l1 := 0) hQ1000 (Fx_f (w := 0 + 1) Fx_rf hF999 (by decide)) (by omega)) (by omega) (Cd_ap sf992 (by omega)))
            have sf1020 : Cd (lg2_997 = 0 ∧ lb2_966 < 19999) (gD T0 A995 F Sn nw (20) (T0 18 (c).toNat) (st2_936) (st2_964) (lb2_875) (lb2_966)) := Cd_mk (fun hC => gD_mv (Cg_fx (l0 := lb2_875) (l1 := lb2_966) hQ1000 (Fx_f (w := lb2_966 + 1) Fx_rf hF999 (by decide)) (by omega)) (by omega) (Cd_ap p981 (by omega)))
            have hBo1021 : Cd (lg2_997 = 0 ∧ lb2_966 < 19999) (Fx [50] (lb + 1) A A995) := Cd_mk (fun hC => Fx_f (Cd_ap hBo993 (by omega)) hF999 (by decide))
            refine jx_inc (pc_q := 149) (l_q := jSto1 L 5 (.int (i32 ((i + (1)))))) (x := i) rfl gL_5 (by decide) rfl rfl ?_
            obtain ⟨L1022, eL1022⟩ : ∃ q, q = jSto1 L 5 (.int (i32 ((i + (1))))) := ⟨_, rfl⟩
            rw [← eL1022]
            have gL1022_0 : jGet L1022 0 = some (.ref 66) := eL1022 ▸ jg_ne (by decide) gL_0 rfl
            have gL1022_1 : jGet L1022 1 = some (.int (i32 (n))) := eL1022 ▸ jg_ne (by decide) gL_1 rfl
            have gL1022_2 : jGet L1022 2 = some (.int (i32 (le))) := eL1022 ▸ jg_ne (by decide) gL_2 rfl
            have gL1022_3 : jGet L1022 3 = some (.int (i32 (lf))) := eL1022 ▸ jg_ne (by decide) gL_3 rfl
            have gL1022_4 : jGet L1022 4 = some (.int (i32 (b4))) := eL1022 ▸ jg_ne (by decide) gL_4 rfl
            have gL1022_6 : jGet L1022 6 = some (.int (i32 (c))) := eL1022 ▸ jg_ne (by decide) gL_6 rfl
            have gL1022_5 : jGet L1022 5 = some (.int (i32 ((i + (1))))) := eL1022 ▸ jg_eq
            refine jx_ld (pc_q := 150) (l_q := L1022) (st_q := [.ref 66]) rfl (jl_aloadn gL1022_0) ?_
            refine jr_get (pc_q := 153) (i := 39) (v := .ref 89) rfl rfl (by decide) rfl rfl ?_
            refine jx_ld (pc_q := 155) (l_q := L1022) (st_q := [.int (i32 (c)), .ref 89]) rfl (jl_iload gL1022_6) ?_
            have b1023 : (-2147483648 : Int) ≤ T0 22 (c).toNat ∧ T0 22 (c).toNat ≤ 2147483647 := hWT.2 22 _
            refine jr_ldv (pc_q := 156) (i := 22) (m := 7000) (z := c) (y := T0 22 (c).toNat) rfl (by decide) rfl (by decide) (by omega) (by omega) rfl (show A995 22 (c).toNat = T0 22 (c).toNat from (congrFun ((hF999.2 22 rfl).trans ((hF968.2 22 rfl).trans ((hF939.2 22 rfl).trans ((hF913.2 22 rfl).trans (((congrFun eA894 22).trans (uA_ne (by decide))).trans ((hF877.2 22 rfl).trans ((hFx.2 22 rfl).trans (p_0 22 rfl)))))))) _)) ?_
            refine jx_ld (pc_q := 158) (l_q := jSto1 L1022 6 (.int (i32 (T0 22 (c).toNat)))) (st_q := []) rfl rfl ?_
            obtain ⟨L1024, eL1024⟩ : ∃ q, q = jSto1 L1022 6 (.int (i32 (T0 22 (c).toNat))) := ⟨_, rfl⟩
            rw [← eL1024]
            have gL1024_0 : jGet L1024 0 = some (.ref 66) := eL1024 ▸ jg_ne (by decide) gL1022_0 rfl
            have gL1024_1 : jGet L1024 1 = some (.int (i32 (n))) := eL1024 ▸ jg_ne (by decide) gL1022_1 rfl
            have gL1024_2 : jGet L1024 2 = some (.int (i32 (le))) := eL1024 ▸ jg_ne (by decide) gL1022_2 rfl
            have gL1024_3 : jGet L1024 3 = some (.int (i32 (lf))) := eL1024 ▸ jg_ne (by decide) gL1022_3 rfl
            have gL1024_4 : jGet L1024 4 = some (.int (i32 (b4))) := eL1024 ▸ jg_ne (by decide) gL1022_4 rfl
            have gL1024_5 : jGet L1024 5 = some (.int (i32 ((i + (1))))) := eL1024 ▸ jg_ne (by decide) gL1022_5 rfl
            have gL1024_6 : jGet L1024 6 = some (.int (i32 (T0 22 (c).toNat))) := eL1024 ▸ jg_eq
            refine jx_go (tg := 40) rfl rfl ?_
            exact ih40 _ (hmt) L1024 G994 A995 (le) (lf) (b4) ((i + (1))) (T0 22 (c).toNat) (st2_996) (lg2_997) (lb2_966) (fw1) (m1) (t1) ((be + 14000)) ((upf La i r874)) rfl gL1024_0 gL1024_1 gL1024_2 gL1024_3 gL1024_4 gL1024_5 gL1024_6 hW998 hF1010 hC1011 hAl1012 hBp1013 (Cd_mk (fun hC => Cd_ap hBo1021 (by omega))) ((e1001)) ((e1002)) (((hF999.1 77 rfl).trans (e972))) ((congrFun ((hF999.2 51 rfl).trans ((hF968.2 51 rfl).trans ((hF939.2 51 rfl).trans ((hF913.2 51 rfl).trans (((congrFun eA894 51).trans (uA_ne (by decide))).trans (hF877.2 51 rfl)))))) _).trans (ex_fw1)) (((hF999.1 81 rfl).trans ((hF968.1 81 rfl).trans ((hF939.1 81 rfl).trans ((hF913.1 81 rfl).trans ((hF877.1 81 rfl).trans (fx_81))))))) (((hF999.1 89 rfl).trans ((hF968.1 89 rfl).trans ((hF939.1 89 rfl).trans ((hF913.1 89 rfl).trans ((hF877.1 89 rfl).trans (fx_89))))))) (by omega) (by omega) (by omega) (by omega) (by omega) (by omega) (by omega) (by omega) (by omega) (by omega) ((Cd_mk (fun hC => by have := Cd_ap iv_5 (by omega); have := Cd_ap p978 (by omega); omega))) (by omega) (by omega) (by omega) ((Cd_mk (fun hC => (by have hr := Cd_ap iv_9 (by omega); omega)))) (by omega) (by omega) ((Cd_mk (fun hC => (by have hr := Cd_ap iv_12 (by omega); omega)))) (by omega) (by omega) (by omega) (by omega) (by omega) (by omega) (by omega) (by omega) (sf1014) (sf1015) ((hnx _ (by omega))) (hbw) (by omega) (by omega) ((PE_i (by omega) sf1016)) ((LBd_nx iv_28 (by omega) (by omega) (by omega))) ((Cd_mk (fun hC => (gA1_nx (by omega) (Cd_ap sf1017 (by omega)) (by have hr := Cd_ap p883 (by omega); omega) (by omega) hcx ⟨_, _, lb2_875, by omega, by omega, .inr ⟨by omega, (Cd_ap sf1018 (by omega))⟩, ST_e (Cd_ap sf1019 (by omega)) rfl (by omega), .inl ⟨by omega, _, gD_su (Cd_ap sf1020 (by omega)) (by omega) (by omega), ST_e (Cd_ap p1008 (by omega)) rfl (by omega)⟩⟩))))
        · have _q := h907
          exfalso
          omega
      · have _q : True := trivial
        have hk17 := wE_in k2
        refine jr_get (pc_q := 63) (i := 34) (v := .ref 84) rfl rfl (by decide) rfl rfl ?_
        refine jx_ld (pc_q := 65) (l_q := L) (st_q := [.int (i32 (c)), .ref 84]) rfl (jl_iload gL_6) ?_
        have b1025 : (-2147483648 : Int) ≤ T0 17 (c).toNat ∧ T0 17 (c).toNat ≤ 2147483647 := hWT.2 17 _
        refine jr_ldv (pc_q := 66) (i := 17) (m := 7000) (z := c) (y := T0 17 (c).toNat) rfl (by decide) rfl (by decide) (by omega) (by omega) rfl (show A894 17 (c).toNat = T0 17 (c).toNat from (congrFun (((congrFun eA894 17).trans (uA_ne (by decide))).trans ((hF877.2 17 rfl).trans ((hFx.2 17 rfl).trans (p_0 17 rfl)))) _)) ?_
        refine jx_if_le (pc_q := 69) (tg := 83) rfl rfl rfl (Int.le_trans (by decide : (-2147483648 : Int) ≤ -2147483648) b1025.1) (Int.le_trans b1025.2 (by decide : (2147483647 : Int) ≤ 2147483647)) (fun h1026 => ?_) (fun h1026 => ?_)
        · have _q := h1026
          exfalso
          omega
        · have _q := h1026
          refine jx_ld (pc_q := 70) (l_q := L) (st_q := [.ref 66]) rfl (jl_aloadn gL_0) ?_
          refine jx_ld (pc_q := 71) (l_q := L) (st_q := [.ref 66, .ref 66]) rfl (jl_aloadn gL_0) ?_
          refine jr_get (pc_q := 74) (i := 34) (v := .ref 84) rfl rfl (by decide) rfl rfl ?_
          refine jx_ld (pc_q := 76) (l_q := L) (st_q := [.int (i32 (c)), .ref 84, .ref 66]) rfl (jl_iload gL_6) ?_
          refine jr_ldv (pc_q := 77) (i := 17) (m := 7000) (z := c) (y := T0 17 (c).toNat) rfl (by decide) rfl (by decide) (by omega) (by omega) rfl (show A894 17 (c).toNat = T0 17 (c).toNat from (congrFun (((congrFun eA894 17).trans (uA_ne (by decide))).trans ((hF877.2 17 rfl).trans ((hFx.2 17 rfl).trans (p_0 17 rfl)))) _)) ?_
          refine jx_vr (pc_q := 80) (as := [.int (i32 (T0 17 (c).toNat))]) (st := []) rfl rfl rfl rfl ⟨rfl, rfl, Nat.le_of_ble_eq_true rfl⟩ rfl rfl (GE_all X 22 (dd := d) (hd := by omega) (hW := hW895) (e := T0 17 (c).toNat) (lo := c + 1) (hi := x) (st := st1) (e_st := show G872 70 = st1 from ((hF877.1 70 rfl).trans (ex_st1))) (lg := lg1) (e_lg := show G872 79 = lg1 from ((hF877.1 79 rfl).trans (ex_lg1))) (lb := lb2_875) (e_lb := show G872 77 = lb2_875 from (e879)) (nw := nw) (e_nw := show G872 81 = nw from ((hF877.1 81 rfl).trans (fx_81)))  (h_e := ⟨(Int.le_trans (by decide : (-2147483648 : Int) ≤ -2147483648) b1025.1), (Int.le_trans b1025.2 (by decide : (2147483647 : Int) ≤ 2147483647))⟩)  (p_0 := (TA_fr hF896 (by decide) p_0)) (p_1 := sf901) (p_2 := sf902) (p_3 := p_3) (p_4 := by omega) (p_5 := by omega) (p_6 := by omega) (p_7 := by omega) (p_8 := by omega) (p_9 := by omega) (p_10 := by omega) (p_11 := by omega) (p_12 := by omega) (p_13 := k2) (p_14 := by omega)) (fun o V_q hq => ?_)
          obtain ⟨G1027, A1028, st2_1029, lg2_1030, lb2_1031, rfl, rfl, hW1032, hF1033, hQ1034, e1035, e1036, e1037, p1038, p1039, p1040, p1041, p1042, p1043, p1044, p1045, p1046, -⟩ := hq
          have hF1048 := Fr_tr hF896 hF1033 (Fr_sub (by decide)) (Fr_sub (by decide))
          have hC1049 := Fx_tr hC898 hQ1034 (by omega)
          have hAl1050 := Fx_f hAl899 hF1033 (by decide)
          have hBp1051 := Fx_f hBp900 hF1033 (by decide)
          have sf1052 := FA_fr (hF1033.2 51 rfl) sf901
          have sf1053 := SA_fr (hF1033.2 13 rfl) sf902
          have sf1054 : PE 58 (upf La i r874) (b4) ((i + 1)) A1028 := PE_fr (hF1033.2 58 rfl) sf903
          have bst2_1029 : (-2147483648 : Int) ≤ st2_1029 ∧ st2_1029 ≤ 2147483647 := e1035 ▸ hW1032.1 70
          have blg2_1030 : (0 : Int) ≤ lg2_1030 ∧ lg2_1030 ≤ 1 := e1036 ▸ hW1032.1 79
          have blb2_1031 : (-2147483648 : Int) ≤ lb2_1031 ∧ lb2_1031 ≤ 2147483647 := e1037 ▸ hW1032.1 77
          refine .inl ⟨rfl, ?_⟩
          have sf1055 : Cd (lg2_1030 = 0 ∧ lb2_1031 < 19999) (gA1 T0 A1028 (La) F Sn nw (n) ((i).toNat) (st) (st1) (lb + 2) (lb1)) := Cd_mk (fun hC => gA1_mv (Cg_fx (l0 := lb + 2) (l1 := lb1) hQ1034 (Cd_ap p1045 (by omega)) (by omega)) (by omega) (Cd_ap sf904 (by omega)))
          have hBo1056 : Cd (lg2_1030 = 0 ∧ lb2_1031 < 19999) (Fx [50] (lb + 1) A A1028) := Cd_mk (fun hC => Fx_tr (Cd_ap hBo905 (by omega)) (Cd_ap p1045 (by omega)) (by omega))
          refine jx_go (tg := 89) rfl rfl ?_
          refine jx_ld (pc_q := 90) (l_q := L) (st_q := [.ref 66]) rfl (jl_aloadn gL_0) ?_
          refine jx_ar (pc_q := 92) (st_q := [.int (i32 (13)), .ref 66]) rfl rfl rfl rfl ?_
          refine jx_ld (pc_q := 93) (l_q := L) (st_q := [.ref 66, .int (i32 (13)), .ref 66]) rfl (jl_aloadn gL_0) ?_
          refine jr_get (pc_q := 96) (i := 42) (v := .ref 92) rfl rfl (by decide) rfl rfl ?_
          refine jx_ld (pc_q := 97) (l_q := L) (st_q := [.int (i32 (n)), .ref 92, .int (i32 (13)), .ref 66]) rfl (jl_iloadn gL_1) ?_
          have b1057 : (-2147483648 : Int) ≤ T0 25 (n).toNat ∧ T0 25 (n).toNat ≤ 2147483647 := hWT.2 25 _
          refine jr_ldv (pc_q := 98) (i := 25) (m := 7000) (z := n) (y := T0 25 (n).toNat) rfl (by decide) rfl (by decide) (by omega) (by omega) rfl (show A1028 25 (n).toNat = T0 25 (n).toNat from (congrFun ((hF1033.2 25 rfl).trans (((congrFun eA894 25).trans (uA_ne (by decide))).trans ((hF877.2 25 rfl).trans ((hFx.2 25 rfl).trans (p_0 25 rfl))))) _)) ?_
          refine jx_ar (pc_q := 99) (st_q := [.int (i32 (2)), .int (i32 (T0 25 (n).toNat)), .int (i32 (13)), .ref 66]) rfl rfl rfl rfl ?_
          refine jx_ld (pc_q := 101) (l_q := L) (st_q := [.int (i32 (i)), .int (i32 (2)), .int (i32 (T0 25 (n).toNat)), .int (i32 (13)), .ref 66]) rfl (jl_iload gL_5) ?_
          refine jx_mul (pc_q := 102) rfl rfl ?_
          refine jx_add (pc_q := 103) rfl rfl ?_
          refine jx_vr (pc_q := 106) (as := [.int (i32 (13)), .int (i32 ((T0 25 (n).toNat + (2 * i))))]) (st := []) rfl rfl rfl rfl ⟨rfl, rfl, Nat.le_of_ble_eq_true rfl⟩ rfl rfl (c_emit (dd := d) (hd := by omega) (hW := hW1032) (fn := 13) (v := (T0 25 (n).toNat + (2 * i))) (st := st2_1029) (e_st := show G1027 70 = st2_1029 from (e1035)) (lg := lg2_1030) (e_lg := show G1027 79 = lg2_1030 from (e1036))  (h_fn := ⟨(by decide), (by decide)⟩) (h_v := ⟨(by omega), (by omega)⟩)  (p_0 := by omega) (p_1 := by omega)) (fun o V_q hq => ?_)
          obtain ⟨G1058, A1059, st2_1060, lg2_1061, rfl, rfl, hW1062, hF1063, hQ1064, e1065, e1066, p1067, p1068, p1069, p1070, p1071, p1072, -⟩ := hq
          have hF1074 := Fr_tr hF1048 hF1063 (Fr_sub (by decide)) (Fr_sub (by decide))
          have hC1075 := Fx_tr hC1049 hQ1064 (by omega)
          have hAl1076 := Fx_f hAl1050 hF1063 (by decide)
          have hBp1077 := Fx_f hBp1051 hF1063 (by decide)
          have sf1078 := FA_fr (hF1063.2 51 rfl) sf1052
          have sf1079 := SA_fr (hF1063.2 13 rfl) sf1053
          have sf1080 : PE 58 (upf La i r874) (b4) ((i + 1)) A1059 := PE_fr (hF1063.2 58 rfl) sf1054
          have bst2_1060 : (-2147483648 : Int) ≤ st2_1060 ∧ st2_1060 ≤ 2147483647 := e1065 ▸ hW1062.1 70
          have blg2_1061 : (0 : Int) ≤ lg2_1061 ∧ lg2_1061 ≤ 1 := e1066 ▸ hW1062.1 79
          refine .inl ⟨rfl, ?_⟩
          have sf1081 : Cd (lg2_1061 = 0 ∧ lb2_1031 < 19999) (gA1 T0 A1059 (La) F Sn nw (n) ((i).toNat) (st) (st1) (lb + 2) (lb1)) := Cd_mk (fun hC => gA1_mv (Cg_fx (l0 := lb + 2) (l1 := lb1) hQ1064 (Fx_f (w := lb1 + 1) Fx_rf hF1063 (by decide)) (by omega)) (by omega) (Cd_ap sf1055 (by omega)))
          have sf1082 : Cd (lg2_1061 = 0 ∧ lb2_1031 < 19999) (gE T0 A1059 F Sn nw (22) (T0 17 (c).toNat) (st1) (st2_1029) (lb2_875) (lb2_1031)) := Cd_mk (fun hC => gE_mv (Cg_fx (l0 := lb2_875) (l1 := lb2_1031) hQ1064 (Fx_f (w := lb2_1031 + 1) Fx_rf hF1063 (by decide)) (by omega)) (by omega) (Cd_ap p1046 (by omega)))
          have hBo1083 : Cd (lg2_1061 = 0 ∧ lb2_1031 < 19999) (Fx [50] (lb + 1) A A1059) := Cd_mk (fun hC => Fx_f (Cd_ap hBo1056 (by omega)) hF1063 (by decide))
          refine jx_ld (pc_q := 107) (l_q := L) (st_q := [.ref 66]) rfl (jl_aloadn gL_0) ?_
          refine jr_get (pc_q := 110) (i := 35) (v := .ref 85) rfl rfl (by decide) rfl rfl ?_
          refine jx_ld (pc_q := 112) (l_q := L) (st_q := [.int (i32 (c)), .ref 85]) rfl (jl_iload gL_6) ?_
          have b1084 : (-2147483648 : Int) ≤ T0 18 (c).toNat ∧ T0 18 (c).toNat ≤ 2147483647 := hWT.2 18 _
          refine jr_ldv (pc_q := 113) (i := 18) (m := 7000) (z := c) (y := T0 18 (c).toNat) rfl (by decide) rfl (by decide) (by omega) (by omega) rfl (show A1059 18 (c).toNat = T0 18 (c).toNat from (congrFun ((hF1063.2 18 rfl).trans ((hF1033.2 18 rfl).trans (((congrFun eA894 18).trans (uA_ne (by decide))).trans ((hF877.2 18 rfl).trans ((hFx.2 18 rfl).trans (p_0 18 rfl)))))) _)) ?_
          refine jx_if_le (pc_q := 116) (tg := 146) rfl rfl rfl (Int.le_trans (by decide : (-2147483648 : Int) ≤ -2147483648) b1084.1) (Int.le_trans b1084.2 (by decide : (2147483647 : Int) ≤ 2147483647)) (fun h1085 => ?_) (fun h1085 => ?_)
          · have _q := h1085
            refine jx_inc (pc_q := 149) (l_q := jSto1 L 5 (.int (i32 ((i + (1)))))) (x := i) rfl gL_5 (by decide) rfl rfl ?_
            obtain ⟨L1086, eL1086⟩ : ∃ q, q = jSto1 L 5 (.int (i32 ((i + (1))))) := ⟨_, rfl⟩
            rw [← eL1086]
            have gL1086_0 : jGet L1086 0 = some (.ref 66) := eL1086 ▸ jg_ne (by decide) gL_0 rfl
            have gL1086_1 : jGet L1086 1 = some (.int (i32 (n))) := eL1086 ▸ jg_ne (by decide) gL_1 rfl
            have gL1086_2 : jGet L1086 2 = some (.int (i32 (le))) := eL1086 ▸ jg_ne (by decide) gL_2 rfl
            have gL1086_3 : jGet L1086 3 = some (.int (i32 (lf))) := eL1086 ▸ jg_ne (by decide) gL_3 rfl
            have gL1086_4 : jGet L1086 4 = some (.int (i32 (b4))) := eL1086 ▸ jg_ne (by decide) gL_4 rfl
            have gL1086_6 : jGet L1086 6 = some (.int (i32 (c))) := eL1086 ▸ jg_ne (by decide) gL_6 rfl
            have gL1086_5 : jGet L1086 5 = some (.int (i32 ((i + (1))))) := eL1086 ▸ jg_eq
            refine jx_ld (pc_q := 150) (l_q := L1086) (st_q := [.ref 66]) rfl (jl_aloadn gL1086_0) ?_
            refine jr_get (pc_q := 153) (i := 39) (v := .ref 89) rfl rfl (by decide) rfl rfl ?_
            refine jx_ld (pc_q := 155) (l_q := L1086) (st_q := [.int (i32 (c)), .ref 89]) rfl (jl_iload gL1086_6) ?_
            have b1087 : (-2147483648 : Int) ≤ T0 22 (c).toNat ∧ T0 22 (c).toNat ≤ 2147483647 := hWT.2 22 _
            refine jr_ldv (pc_q := 156) (i := 22) (m := 7000) (z := c) (y := T0 22 (c).toNat) rfl (by decide) rfl (by decide) (by omega) (by omega) rfl (show A1059 22 (c).toNat = T0 22 (c).toNat from (congrFun ((hF1063.2 22 rfl).trans ((hF1033.2 22 rfl).trans (((congrFun eA894 22).trans (uA_ne (by decide))).trans ((hF877.2 22 rfl).trans ((hFx.2 22 rfl).trans (p_0 22 rfl)))))) _)) ?_
            refine jx_ld (pc_q := 158) (l_q := jSto1 L1086 6 (.int (i32 (T0 22 (c).toNat)))) (st_q := []) rfl rfl ?_
            obtain ⟨L1088, eL1088⟩ : ∃ q, q = jSto1 L1086 6 (.int (i32 (T0 22 (c).toNat))) := ⟨_, rfl⟩
            rw [← eL1088]
            have gL1088_0 : jGet L1088 0 = some (.ref 66) := eL1088 ▸ jg_ne (by decide) gL1086_0 rfl
            have gL1088_1 : jGet L1088 1 = some (.int (i32 (n))) := eL1088 ▸ jg_ne (by decide) gL1086_1 rfl
            have gL1088_2 : jGet L1088 2 = some (.int (i32 (le))) := eL1088 ▸ jg_ne (by decide) gL1086_2 rfl
            have gL1088_3 : jGet L1088 3 = some (.int (i32 (lf))) := eL1088 ▸ jg_ne (by decide) gL1086_3 rfl
            have gL1088_4 : jGet L1088 4 = some (.int (i32 (b4))) := eL1088 ▸ jg_ne (by decide) gL1086_4 rfl
            have gL1088_5 : jGet L1088 5 = some (.int (i32 ((i + (1))))) := eL1088 ▸ jg_ne (by decide) gL1086_5 rfl
            have gL1088_6 : jGet L1088 6 = some (.int (i32 (T0 22 (c).toNat))) := eL1088 ▸ jg_eq
            refine jx_go (tg := 40) rfl rfl ?_
            exact ih40 _ (hmt) L1088 G1058 A1059 (le) (lf) (b4) ((i + (1))) (T0 22 (c).toNat) (st2_1060) (lg2_1061) (lb2_1031) (fw1) (m1) (t1) ((be + 14000)) ((upf La i r874)) rfl gL1088_0 gL1088_1 gL1088_2 gL1088_3 gL1088_4 gL1088_5 gL1088_6 hW1062 hF1074 hC1075 hAl1076 hBp1077 (Cd_mk (fun hC => Cd_ap hBo1083 (by omega))) ((e1065)) ((e1066)) (((hF1063.1 77 rfl).trans (e1037))) ((congrFun ((hF1063.2 51 rfl).trans ((hF1033.2 51 rfl).trans (((congrFun eA894 51).trans (uA_ne (by decide))).trans (hF877.2 51 rfl)))) _).trans (ex_fw1)) (((hF1063.1 81 rfl).trans ((hF1033.1 81 rfl).trans ((hF877.1 81 rfl).trans (fx_81))))) (((hF1063.1 89 rfl).trans ((hF1033.1 89 rfl).trans ((hF877.1 89 rfl).trans (fx_89))))) (by omega) (by omega) (by omega) (by omega) (by omega) (by omega) (by omega) (by omega) (by omega) (by omega) ((Cd_mk (fun hC => by have := Cd_ap iv_5 (by omega); have := Cd_ap p1043 (by omega); omega))) (by omega) (by omega) (by omega) ((Cd_mk (fun hC => (by have hr := Cd_ap iv_9 (by omega); omega)))) (by omega) (by omega) ((Cd_mk (fun hC => (by have hr := Cd_ap iv_12 (by omega); omega)))) (by omega) (by omega) (by omega) (by omega) (by omega) (by omega) (by omega) (by omega) (sf1078) (sf1079) ((hnx _ (by omega))) (hbw) (by omega) (by omega) ((PE_i (by omega) sf1080)) ((LBd_nx iv_28 (by omega) (by omega) (by omega))) ((Cd_mk (fun hC => (gA1_nx (by omega) (Cd_ap sf1081 (by omega)) (by have hr := Cd_ap p883 (by omega); omega) (by omega) hcx ⟨_, _, lb2_1031, by omega, by omega, .inl ⟨by omega, gE_su (by omega) (by omega) (Cd_ap sf1082 (by omega))⟩, ST_e (Cd_ap p1072 (by omega)) rfl (by omega), .inr ⟨by omega, rfl⟩⟩))))
          · have _q := h1085
            exfalso
            omega
      · have _q : True := trivial
        have hk17 := wE_in k4; have hk18 := wR_kd k5
        refine jr_get (pc_q := 63) (i := 34) (v := .ref 84) rfl rfl (by decide) rfl rfl ?_
        refine jx_ld (pc_q := 65) (l_q := L) (st_q := [.int (i32 (c)), .ref 84]) rfl (jl_iload gL_6) ?_
        have b1089 : (-2147483648 : Int) ≤ T0 17 (c).toNat ∧ T0 17 (c).toNat ≤ 2147483647 := hWT.2 17 _
        refine jr_ldv (pc_q := 66) (i := 17) (m := 7000) (z := c) (y := T0 17 (c).toNat) rfl (by decide) rfl (by decide) (by omega) (by omega) rfl (show A894 17 (c).toNat = T0 17 (c).toNat from (congrFun (((congrFun eA894 17).trans (uA_ne (by decide))).trans ((hF877.2 17 rfl).trans ((hFx.2 17 rfl).trans (p_0 17 rfl)))) _)) ?_
        refine jx_if_le (pc_q := 69) (tg := 83) rfl rfl rfl (Int.le_trans (by decide : (-2147483648 : Int) ≤ -2147483648) b1089.1) (Int.le_trans b1089.2 (by decide : (2147483647 : Int) ≤ 2147483647)) (fun h1090 => ?_) (fun h1090 => ?_)
        · have _q := h1090
          exfalso
          omega
        · have _q := h1090
          refine jx_ld (pc_q := 70) (l_q := L) (st_q := [.ref 66]) rfl (jl_aloadn gL_0) ?_
          refine jx_ld (pc_q := 71) (l_q := L) (st_q := [.ref 66, .ref 66]) rfl (jl_aloadn gL_0) ?_
          refine jr_get (pc_q := 74) (i := 34) (v := .ref 84) rfl rfl (by decide) rfl rfl ?_
          refine jx_ld (pc_q := 76) (l_q := L) (st_q := [.int (i32 (c)), .ref 84, .ref 66]) rfl (jl_iload gL_6) ?_
          refine jr_ldv (pc_q := 77) (i := 17) (m := 7000) (z := c) (y := T0 17 (c).toNat) rfl (by decide) rfl (by decide) (by omega) (by omega) rfl (show A894 17 (c).toNat = T0 17 (c).toNat from (congrFun (((congrFun eA894 17).trans (uA_ne (by decide))).trans ((hF877.2 17 rfl).trans ((hFx.2 17 rfl).trans (p_0 17 rfl)))) _)) ?_
          refine jx_vr (pc_q := 80) (as := [.int (i32 (T0 17 (c).toNat))]) (st := []) rfl rfl rfl rfl ⟨rfl, rfl, Nat.le_of_ble_eq_true rfl⟩ rfl rfl (GE_all X 22 (dd := d) (hd := by omega) (hW := hW895) (e := T0 17 (c).toNat) (lo := c + 1) (hi := a) (st := st1) (e_st := show G872 70 = st1 from ((hF877.1 70 rfl).trans (ex_st1))) (lg := lg1) (e_lg := show G872 79 = lg1 from ((hF877.1 79 rfl).trans (ex_lg1))) (lb := lb2_875) (e_lb := show G872 77 = lb2_875 from (e879)) (nw := nw) (e_nw := show G872 81 = nw from ((hF877.1 81 rfl).trans (fx_81)))  (h_e := ⟨(Int.le_trans (by decide : (-2147483648 : Int) ≤ -2147483648) b1089.1), (Int.le_trans b1089.2 (by decide : (2147483647 : Int) ≤ 2147483647))⟩)  (p_0 := (TA_fr hF896 (by decide) p_0)) (p_1 := sf901) (p_2 := sf902) (p_3 := p_3) (p_4 := by omega) (p_5 := by omega) (p_6 := by omega) (p_7 := by omega) (p_8 := by omega) (p_9 := by omega) (p_10 := by omega) (p_11 := by omega) (p_12 := by omega) (p_13 := k4) (p_14 := by omega)) (fun o V_q hq => ?_)
          obtain ⟨G1091, A1092, st2_1093, lg2_1094, lb2_1095, rfl, rfl, hW1096, hF1097, hQ1098, e1099, e1100, e1101, p1102, p1103, p1104, p1105, p1106, p1107, p1108, p1109, p1110, -⟩ := hq
          have hF1112 := Fr_tr hF896 hF1097 (Fr_sub (by decide)) (Fr_sub (by decide))
          have hC1113 := Fx_tr hC898 hQ1098 (by omega)
          have hAl1114 := Fx_f hAl899 hF1097 (by decide)
          have hBp1115 := Fx_f hBp900 hF1097 (by decide)
          have sf1116 := FA_fr (hF1097.2 51 rfl) sf901
          have sf1117 := SA_fr (hF1097.2 13 rfl) sf902
          have sf1118 : PE 58 (upf La i r874) (b4) ((i + 1)) A1092 := PE_fr (hF1097.2 58 rfl) sf903
          have bst2_1093 : (-2147483648 : Int) ≤ st2_1093 ∧ st2_1093 ≤ 2147483647 := e1099 ▸ hW1096.1 70
          have blg2_1094 : (0 : Int) ≤ lg2_1094 ∧ lg2_1094 ≤ 1 := e1100 ▸ hW1096.1 79
          have blb2_1095 : (-2147483648 : Int) ≤ lb2_1095 ∧ lb2_1095 ≤ 2147483647 := e1101 ▸ hW1096.1 77
          refine .inl ⟨rfl, ?_⟩
          have sf1119 : Cd (lg2_1094 = 0 ∧ lb2_1095 < 19999) (gA1 T0 A1092 (La) F Sn nw (n) ((i).toNat) (st) (st1) (lb + 2) (lb1)) := Cd_mk (fun hC => gA1_mv (Cg_fx (l0 := lb + 2) (l1 := lb1) hQ1098 (Cd_ap p1109 (by omega)) (by omega)) (by omega) (Cd_ap sf904 (by omega)))
          have hBo1120 : Cd (lg2_1094 = 0 ∧ lb2_1095 < 19999) (Fx [50] (lb + 1) A A1092) := Cd_mk (fun hC => Fx_tr (Cd_ap hBo905 (by omega)) (Cd_ap p1109 (by omega)) (by omega))
          refine jx_go (tg := 89) rfl rfl ?_
          refine jx_ld (pc_q := 90) (l_q := L) (st_q := [.ref 66]) rfl (jl_aloadn gL_0) ?_
          refine jx_ar (pc_q := 92) (st_q := [.int (i32 (13)), .ref 66]) rfl rfl rfl rfl ?_
          refine jx_ld (pc_q := 93) (l_q := L) (st_q := [.ref 66, .int (i32 (13)), .ref 66]) rfl (jl_aloadn gL_0) ?_
          refine jr_get (pc_q := 96) (i := 42) (v := .ref 92) rfl rfl (by decide) rfl rfl ?_
          refine jx_ld (pc_q := 97) (l_q := L) (st_q := [.int (i32 (n)), .ref 92, .int (i32 (13)), .ref 66]) rfl (jl_iloadn gL_1) ?_
          have b1121 : (-2147483648 : Int) ≤ T0 25 (n).toNat ∧ T0 25 (n).toNat ≤ 2147483647 := hWT.2 25 _
          refine jr_ldv (pc_q := 98) (i := 25) (m := 7000) (z := n) (y := T0 25 (n).toNat) rfl (by decide) rfl (by decide) (by omega) (by omega) rfl (show A1092 25 (n).toNat = T0 25 (n).toNat from (congrFun ((hF1097.2 25 rfl).trans (((congrFun eA894 25).trans (uA_ne (by decide))).trans ((hF877.2 25 rfl).trans ((hFx.2 25 rfl).trans (p_0 25 rfl))))) _)) ?_
          refine jx_ar (pc_q := 99) (st_q := [.int (i32 (2)), .int (i32 (T0 25 (n).toNat)), .int (i32 (13)), .ref 66]) rfl rfl rfl rfl ?_
          refine jx_ld (pc_q := 101) (l_q := L) (st_q := [.int (i32 (i)), .int (i32 (2)), .int (i32 (T0 25 (n).toNat)), .int (i32 (13)), .ref 66]) rfl (jl_iload gL_5) ?_
          refine jx_mul (pc_q := 102) rfl rfl ?_
          refine jx_add (pc_q := 103) rfl rfl ?_
          refine jx_vr (pc_q := 106) (as := [.int (i32 (13)), .int (i32 ((T0 25 (n).toNat + (2 * i))))]) (st := []) rfl rfl rfl rfl ⟨rfl, rfl, Nat.le_of_ble_eq_true rfl⟩ rfl rfl (c_emit (dd := d) (hd := by omega) (hW := hW1096) (fn := 13) (v := (T0 25 (n).toNat + (2 * i))) (st := st2_1093) (e_st := show G1091 70 = st2_1093 from (e1099)) (lg := lg2_1094) (e_lg := show G1091 79 = lg2_1094 from (e1100))  (h_fn := ⟨(by decide), (by decide)⟩) (h_v := ⟨(by omega), (by omega)⟩)  (p_0 := by omega) (p_1 := by omega)) (fun o V_q hq => ?_)
          obtain ⟨G1122, A1123, st2_1124, lg2_1125, rfl, rfl, hW1126, hF1127, hQ1128, e1129, e1130, p1131, p1132, p1133, p1134, p1135, p1136, -⟩ := hq
          have hF1138 := Fr_tr hF1112 hF1127 (Fr_sub (by decide)) (Fr_sub (by decide))
          have hC1139 := Fx_tr hC1113 hQ1128 (by omega)
          have hAl1140 := Fx_f hAl1114 hF1127 (by decide)
          have hBp1141 := Fx_f hBp1115 hF1127 (by decide)
          have sf1142 := FA_fr (hF1127.2 51 rfl) sf1116
          have sf1143 := SA_fr (hF1127.2 13 rfl) sf1117
          have sf1144 : PE 58 (upf La i r874) (b4) ((i + 1)) A1123 := PE_fr (hF1127.2 58 rfl) sf1118
          have bst2_1124 : (-2147483648 : Int) ≤ st2_1124 ∧ st2_1124 ≤ 2147483647 := e1129 ▸ hW1126.1 70
          have blg2_1125 : (0 : Int) ≤ lg2_1125 ∧ lg2_1125 ≤ 1 := e1130 ▸ hW1126.1 79
          refine .inl ⟨rfl, ?_⟩
          have sf1145 : Cd (lg2_1125 = 0 ∧ lb2_1095 < 19999) (gA1 T0 A1123 (La) F Sn nw (n) ((i).toNat) (st) (st1) (lb + 2) (lb1)) := Cd_mk (fun hC => gA1_mv (Cg_fx (l0 := lb + 2) (l1 := lb1) hQ1128 (Fx_f (w := lb1 + 1) Fx_rf hF1127 (by decide)) (by omega)) (by omega) (Cd_ap sf1119 (by omega)))
          have sf1146 : Cd (lg2_1125 = 0 ∧ lb2_1095 < 19999) (gE T0 A1123 F Sn nw (22) (T0 17 (c).toNat) (st1) (st2_1093) (lb2_875) (lb2_1095)) := Cd_mk (fun hC => gE_mv (Cg_fx (l0 := lb2_875) (l1 := lb2_1095) hQ1128 (Fx_f (w := lb2_1095 + 1) Fx_rf hF1127 (by decide)) (by omega)) (by omega) (Cd_ap p1110 (by omega)))
          have hBo1147 : Cd (lg2_1125 = 0 ∧ lb2_1095 < 19999) (Fx [50] (lb + 1) A A1123) := Cd_mk (fun hC => Fx_f (Cd_ap hBo1120 (by omega)) hF1127 (by decide))
          refine jx_ld (pc_q := 107) (l_q := L) (st_q := [.ref 66]) rfl (jl_aloadn gL_0) ?_
          refine jr_get (pc_q := 110) (i := 35) (v := .ref 85) rfl rfl (by decide) rfl rfl ?_
          refine jx_ld (pc_q := 112) (l_q := L) (st_q := [.int (i32 (c)), .ref 85]) rfl (jl_iload gL_6) ?_
          have b1148 : (-2147483648 : Int) ≤ T0 18 (c).toNat ∧ T0 18 (c).toNat ≤ 2147483647 := hWT.2 18 _
          refine jr_ldv (pc_q := 113) (i := 18) (m := 7000) (z := c) (y := T0 18 (c).toNat) rfl (by decide) rfl (by decide) (by omega) (by omega) rfl (show A1123 18 (c).toNat = T0 18 (c).toNat from (congrFun ((hF1127.2 18 rfl).trans ((hF1097.2 18 rfl).trans (((congrFun eA894 18).trans (uA_ne (by decide))).trans ((hF877.2 18 rfl).trans ((hFx.2 18 rfl).trans (p_0 18 rfl)))))) _)) ?_
          refine jx_if_le (pc_q := 116) (tg := 146) rfl rfl rfl (Int.le_trans (by decide : (-2147483648 : Int) ≤ -2147483648) b1148.1) (Int.le_trans b1148.2 (by decide : (2147483647 : Int) ≤ 2147483647)) (fun h1149 => ?_) (fun h1149 => ?_)
          · have _q := h1149
            exfalso
            omega
          · have _q := h1149
            have _q : True := trivial
            refine jx_ld (pc_q := 117) (l_q := L) (st_q := [.ref 66]) rfl (jl_aloadn gL_0) ?_
            refine jx_ld (pc_q := 118) (l_q := L) (st_q := [.ref 66, .ref 66]) rfl (jl_aloadn gL_0) ?_
            refine jr_get (pc_q := 121) (i := 35) (v := .ref 85) rfl rfl (by decide) rfl rfl ?_
            refine jx_ld (pc_q := 123) (l_q := L) (st_q := [.int (i32 (c)), .ref 85, .ref 66]) rfl (jl_iload gL_6) ?_
            refine jr_ldv (pc_q := 124) (i := 18) (m := 7000) (z := c) (y := T0 18 (c).toNat) rfl (by decide) rfl (by decide) (by omega) (by omega) rfl (show A1123 18 (c).toNat = T0 18 (c).toNat from (congrFun ((hF1127.2 18 rfl).trans ((hF1097.2 18 rfl).trans (((congrFun eA894 18).trans (uA_ne (by decide))).trans ((hF877.2 18 rfl).trans ((hFx.2 18 rfl).trans (p_0 18 rfl)))))) _)) ?_
            refine jx_vr (pc_q := 127) (as := [.int (i32 (T0 18 (c).toNat))]) (st := []) rfl rfl rfl rfl ⟨rfl, rfl, Nat.le_of_ble_eq_true rfl⟩ rfl rfl (c_genAddress (dd := d) (k := 20) (hG := GE_all X 20) (hd := by omega) (hW := hW1126) (x := T0 18 (c).toNat) (lo := a) (hi := b) (st := st2_1124) (e_st := show G1122 70 = st2_1124 from (e1129)) (lg := lg2_1125) (e_lg := show G1122 79 = lg2_1125 from (e1130)) (lb := lb2_1095) (e_lb := show G1122 77 = lb2_1095 from ((hF1127.1 77 rfl).trans (e1101))) (nw := nw) (e_nw := show G1122 81 = nw from ((hF1127.1 81 rfl).trans ((hF1097.1 81 rfl).trans ((hF877.1 81 rfl).trans (fx_81)))))  (h_x := ⟨(Int.le_trans (by decide : (-2147483648 : Int) ≤ -2147483648) b1148.1), (Int.le_trans b1148.2 (by decide : (2147483647 : Int) ≤ 2147483647))⟩)  (p_0 := (TA_fr hF1138 (by decide) p_0)) (p_1 := sf1142) (p_2 := sf1143) (p_3 := p_3) (p_4 := by omega) (p_5 := by omega) (p_6 := by omega) (p_7 := by omega) (p_8 := by omega) (p_9 := by omega) (p_10 := by omega) (p_11 := by omega) (p_12 := by omega) (p_13 := (pX_wR k5)) (p_14 := by omega)) (fun o V_q hq => ?_)
            obtain ⟨G1150, A1151, st2_1152, lg2_1153, lb2_1154, rfl, rfl, hW1155, hF1156, hQ1157, e1158, e1159, e1160, p1161, p1162, p1163, p1164, p1165, p1166, p1167, p1168, p1169, -⟩ := hq
            have hF1171 := Fr_tr hF1138 hF1156 (Fr_sub (by decide)) (Fr_sub (by decide))
            have hC1172 := Fx_tr hC1139 hQ1157 (by omega)
            have hAl1173 := Fx_f hAl1140 hF1156 (by decide)
            have hBp1174 := Fx_f hBp1141 hF1156 (by decide)
            have sf1175 := FA_fr (hF1156.2 51 rfl) sf1142
            have sf1176 := SA_fr (hF1156.2 13 rfl) sf1143
            have sf1177 : PE 58 (upf La i r874) (b4) ((i + 1)) A1151 := PE_fr (hF1156.2 58 rfl) sf1144
            have bst2_1152 : (-2147483648 : Int) ≤ st2_1152 ∧ st2_1152 ≤ 2147483647 := e1158 ▸ hW1155.1 70
            have blg2_1153 : (0 : Int) ≤ lg2_1153 ∧ lg2_1153 ≤ 1 := e1159 ▸ hW1155.1 79
            have blb2_1154 : (-2147483648 : Int) ≤ lb2_1154 ∧ lb2_1154 ≤ 2147483647 := e1160 ▸ hW1155.1 77
            refine .inl ⟨rfl, ?_⟩
            have sf1178 : Cd (lg2_1153 = 0 ∧ lb2_1154 < 19999) (gA1 T0 A1151 (La) F Sn nw (n) ((i).toNat) (st) (st1) (lb + 2) (lb1)) := Cd_mk (fun hC => gA1_mv (Cg_fx (l0 := lb + 2) (l1 := lb1) hQ1157 (Cd_ap p1168 (by omega)) (by omega)) (by omega) (Cd_ap sf1145 (by omega)))
            have sf1179 : Cd (lg2_1153 = 0 ∧ lb2_1154 < 19999) (gE T0 A1151 F Sn nw (22) (T0 17 (c).toNat) (st1) (st2_1093) (lb2_875) (lb2_1095)) := Cd_mk (fun hC => gE_mv (Cg_fx (l0 := lb2_875) (l1 := lb2_1095) hQ1157 (Cd_ap p1168 (by omega)) (by omega)) (by omega) (Cd_ap sf1146 (by omega)))
            have sf1180 : Cd (lg2_1153 = 0 ∧ lb2_1154 < 19999) (ST A1151 (st2_1093) (st2_1124) (13) (T0 25 (n).toNat + (2 * i))) := Cd_mk (fun hC => ST_mv (Cg_fx (l0 := 0) (l1 := 0) hQ1157 (Cd_ap p1168 (by omega)) (by omega)) (by omega) (Cd_ap p1136 (by omega)))
            have hBo1181 : Cd (lg2_1153 = 0 ∧ lb2_1154 < 19999) (Fx [50] (lb + 1) A A1151) := Cd_mk (fun hC => Fx_tr (Cd_ap hBo1147 (by omega)) (Cd_ap p1168 (by omega)) (by omega))
            refine jx_ld (pc_q := 128) (l_q := L) (st_q := [.ref 66]) rfl (jl_aloadn gL_0) ?_
            refine jx_ar (pc_q := 130) (st_q := [.int (i32 (13)), .ref 66]) rfl rfl rfl rfl ?_
            refine jx_ld (pc_q := 131) (l_q := L) (st_q := [.ref 66, .int (i32 (13)), .ref 66]) rfl (jl_aloadn gL_0) ?_
            refine jr_get (pc_q := 134) (i := 42) (v := .ref 92) rfl rfl (by decide) rfl rfl ?_
            refine jx_ld (pc_q := 135) (l_q := L) (st_q := [.int (i32 (n)), .ref 92, .int (i32 (13)), .ref 66]) rfl (jl_iloadn gL_1) ?_
            refine jr_ldv (pc_q := 136) (i := 25) (m := 7000) (z := n) (y := T0 25 (n).toNat) rfl (by decide) rfl (by decide) (by omega) (by omega) rfl (show A1151 25 (n).toNat = T0 25 (n).toNat from (congrFun ((hF1156.2 25 rfl).trans ((hF1127.2 25 rfl).trans ((hF1097.2 25 rfl).trans (((congrFun eA894 25).trans (uA_ne (by decide))).trans ((hF877.2 25 rfl).trans ((hFx.2 25 rfl).trans (p_0 25 rfl))))))) _)) ?_
            refine jx_ar (pc_q := 137) (st_q := [.int (i32 (2)), .int (i32 (T0 25 (n).toNat)), .int (i32 (13)), .ref 66]) rfl rfl rfl rfl ?_
            refine jx_ld (pc_q := 139) (l_q := L) (st_q := [.int (i32 (i)), .int (i32 (2)), .int (i32 (T0 25 (n).toNat)), .int (i32 (13)), .ref 66]) rfl (jl_iload gL_5) ?_
            refine jx_mul (pc_q := 140) rfl rfl ?_
            refine jx_add (pc_q := 141) rfl rfl ?_
            refine jx_ar (pc_q := 142) (st_q := [.int (i32 (1)), .int (i32 ((T0 25 (n).toNat + (2 * i)))), .int (i32 (13)), .ref 66]) rfl rfl rfl rfl ?_
            refine jx_add (pc_q := 143) rfl rfl ?_
            refine jx_vr (pc_q := 146) (as := [.int (i32 (13)), .int (i32 (((T0 25 (n).toNat + (2 * i)) + 1)))]) (st := []) rfl rfl rfl rfl ⟨rfl, rfl, Nat.le_of_ble_eq_true rfl⟩ rfl rfl (c_emit (dd := d) (hd := by omega) (hW := hW1155) (fn := 13) (v := ((T0 25 (n).toNat + (2 * i)) + 1)) (st := st2_1152) (e_st := show G1150 70 = st2_1152 from (e1158)) (lg := lg2_1153) (e_lg := show G1150 79 = lg2_1153 from (e1159))  (h_fn := ⟨(by decide), (by decide)⟩) (h_v := ⟨(by omega), (by omega)⟩)  (p_0 := by omega) (p_1 := by omega)) (fun o V_q hq => ?_)
            obtain ⟨G1182, A1183, st2_1184, lg2_1185, rfl, rfl, hW1186, hF1187, hQ1188, e1189, e1190, p1191, p1192, p1193, p1194, p1195, p1196, -⟩ := hq
            have hF1198 := Fr_tr hF1171 hF1187 (Fr_sub (by decide)) (Fr_sub (by decide))
            have hC1199 := Fx_tr hC1172 hQ1188 (by omega)
            have hAl1200 := Fx_f hAl1173 hF1187 (by decide)
            have hBp1201 := Fx_f hBp1174 hF1187 (by decide)
            have sf1202 := FA_fr (hF1187.2 51 rfl) sf1175
            have sf1203 := SA_fr (hF1187.2 13 rfl) sf1176
            have sf1204 : PE 58 (upf La i r874) (b4) ((i + 1)) A1183 := PE_fr (hF1187.2 58 rfl) sf1177
            have bst2_1184 : (-2147483648 : Int) ≤ st2_1184 ∧ st2_1184 ≤ 2147483647 := e1189 ▸ hW1186.1 70
            have blg2_1185 : (0 : Int) ≤ lg2_1185 ∧ lg2_1185 ≤ 1 := e1190 ▸ hW1186.1 79
            refine .inl ⟨rfl, ?_⟩
            have sf1205 : Cd (lg2_1185 = 0 ∧ lb2_1154 < 19999) (gA1 T0 A1183 (La) F Sn nw (n) ((i).toNat) (st) (st1) (lb + 2) (lb1)) := Cd_mk (fun hC => gA1_mv (Cg_fx (l0 := lb + 2) (l1 := lb1) hQ1188 (Fx_f (w := lb1 + 1) Fx_rf hF1187 (by decide)) (by omega)) (by omega) (Cd_ap sf1178 (by omega)))
            have sf1206 : Cd (lg2_1185 = 0 ∧ lb2_1154 < 19999) (gE T0 A1183 F Sn nw (22) (T0 17 (c).toNat) (st1) (st2_1093) (lb2_875) (lb2_1095)) := Cd_mk (fun hC => gE_mv (Cg_fx (l0 := lb2_875) (l1 := lb2_1095) hQ1188 (Fx_f (w := lb2_1095 + 1) Fx_rf hF1187 (by decide)) (by omega)) (by omega) (Cd_ap sf1179 (by omega)))
            have sf1207 : Cd (lg2_1185 = 0 ∧ lb2_1154 < 19999) (ST A1183 (st2_1093) (st2_1124) (13) (T0 25 (n).toNat + (2 * i))) := Cd_mk (fun hC => ST_mv (Cg_fx (l0 := 0) (l1 := 0) hQ1188 (Fx_f (w := 0 + 1) Fx_rf hF1187 (by decide)) (by omega)) (by omega) (Cd_ap sf1180 (by omega)))
            have sf1208 : Cd (lg2_1185 = 0 ∧ lb2_1154 < 19999) (gD T0 A1183 F Sn nw (20) (T0 18 (c).toNat) (st2_1124) (st2_1152) (lb2_1095) (lb2_1154)) := Cd_mk (fun hC => gD_mv (Cg_fx (l0 := lb2_1095) (l1 := lb2_1154) hQ1188 (Fx_f (w := lb2_1154 + 1) Fx_rf hF1187 (by decide)) (by omega)) (by omega) (Cd_ap p1169 (by omega)))
            have hBo1209 : Cd (lg2_1185 = 0 ∧ lb2_1154 < 19999) (Fx [50] (lb + 1) A A1183) := Cd_mk (fun hC => Fx_f (Cd_ap hBo1181 (by omega)) hF1187 (by decide))
            refine jx_inc (pc_q := 149) (l_q := jSto1 L 5 (.int (i32 ((i + (1)))))) (x := i) rfl gL_5 (by decide) rfl rfl ?_
            obtain ⟨L1210, eL1210⟩ : ∃ q, q = jSto1 L 5 (.int (i32 ((i + (1))))) := ⟨_, rfl⟩
            rw [← eL1210]
            have gL1210_0 : jGet L1210 0 = some (.ref 66) := eL1210 ▸ jg_ne (by decide) gL_0 rfl
            have gL1210_1 : jGet L1210 1 = some (.int (i32 (n))) := eL1210 ▸ jg_ne (by decide) gL_1 rfl
            have gL1210_2 : jGet L1210 2 = some (.int (i32 (le))) := eL1210 ▸ jg_ne (by decide) gL_2 rfl
            have gL1210_3 : jGet L1210 3 = some (.int (i32 (lf))) := eL1210 ▸ jg_ne (by decide) gL_3 rfl
            have gL1210_4 : jGet L1210 4 = some (.int (i32 (b4))) := eL1210 ▸ jg_ne (by decide) gL_4 rfl
            have gL1210_6 : jGet L1210 6 = some (.int (i32 (c))) := eL1210 ▸ jg_ne (by decide) gL_6 rfl
            have gL1210_5 : jGet L1210 5 = some (.int (i32 ((i + (1))))) := eL1210 ▸ jg_eq
            refine jx_ld (pc_q := 150) (l_q := L1210) (st_q := [.ref 66]) rfl (jl_aloadn gL1210_0) ?_
            refine jr_get (pc_q := 153) (i := 39) (v := .ref 89) rfl rfl (by decide) rfl rfl ?_
            refine jx_ld (pc_q := 155) (l_q := L1210) (st_q := [.int (i32 (c)), .ref 89]) rfl (jl_iload gL1210_6) ?_
            have b1211 : (-2147483648 : Int) ≤ T0 22 (c).toNat ∧ T0 22 (c).toNat ≤ 2147483647 := hWT.2 22 _
            refine jr_ldv (pc_q := 156) (i := 22) (m := 7000) (z := c) (y := T0 22 (c).toNat) rfl (by decide) rfl (by decide) (by omega) (by omega) rfl (show A1183 22 (c).toNat = T0 22 (c).toNat from (congrFun ((hF1187.2 22 rfl).trans ((hF1156.2 22 rfl).trans ((hF1127.2 22 rfl).trans ((hF1097.2 22 rfl).trans (((congrFun eA894 22).trans (uA_ne (by decide))).trans ((hF877.2 22 rfl).trans ((hFx.2 22 rfl).trans (p_0 22 rfl)))))))) _)) ?_
            refine jx_ld (pc_q := 158) (l_q := jSto1 L1210 6 (.int (i32 (T0 22 (c).toNat)))) (st_q := []) rfl rfl ?_
            obtain ⟨L1212, eL1212⟩ : ∃ q, q = jSto1 L1210 6 (.int (i32 (T0 22 (c).toNat))) := ⟨_, rfl⟩
            rw [← eL1212]
            have gL1212_0 : jGet L1212 0 = some (.ref 66) := eL1212 ▸ jg_ne (by decide) gL1210_0 rfl
            have gL1212_1 : jGet L1212 1 = some (.int (i32 (n))) := eL1212 ▸ jg_ne (by decide) gL1210_1 rfl
            have gL1212_2 : jGet L1212 2 = some (.int (i32 (le))) := eL1212 ▸ jg_ne (by decide) gL1210_2 rfl
            have gL1212_3 : jGet L1212 3 = some (.int (i32 (lf))) := eL1212 ▸ jg_ne (by decide) gL1210_3 rfl
            have gL1212_4 : jGet L1212 4 = some (.int (i32 (b4))) := eL1212 ▸ jg_ne (by decide) gL1210_4 rfl
            have gL1212_5 : jGet L1212 5 = some (.int (i32 ((i + (1))))) := eL1212 ▸ jg_ne (by decide) gL1210_5 rfl
            have gL1212_6 : jGet L1212 6 = some (.int (i32 (T0 22 (c).toNat))) := eL1212 ▸ jg_eq
            refine jx_go (tg := 40) rfl rfl ?_
            exact ih40 _ (hmt) L1212 G1182 A1183 (le) (lf) (b4) ((i + (1))) (T0 22 (c).toNat) (st2_1184) (lg2_1185) (lb2_1154) (fw1) (m1) (t1) ((be + 14000)) ((upf La i r874)) rfl gL1212_0 gL1212_1 gL1212_2 gL1212_3 gL1212_4 gL1212_5 gL1212_6 hW1186 hF1198 hC1199 hAl1200 hBp1201 (Cd_mk (fun hC => Cd_ap hBo1209 (by omega))) ((e1189)) ((e1190)) (((hF1187.1 77 rfl).trans (e1160))) ((congrFun ((hF1187.2 51 rfl).trans ((hF1156.2 51 rfl).trans ((hF1127.2 51 rfl).trans ((hF1097.2 51 rfl).trans (((congrFun eA894 51).trans (uA_ne (by decide))).trans (hF877.2 51 rfl)))))) _).trans (ex_fw1)) (((hF1187.1 81 rfl).trans ((hF1156.1 81 rfl).trans ((hF1127.1 81 rfl).trans ((hF1097.1 81 rfl).trans ((hF877.1 81 rfl).trans (fx_81))))))) (((hF1187.1 89 rfl).trans ((hF1156.1 89 rfl).trans ((hF1127.1 89 rfl).trans ((hF1097.1 89 rfl).trans ((hF877.1 89 rfl).trans (fx_89))))))) (by omega) (by omega) (by omega) (by omega) (by omega) (by omega) (by omega) (by omega) (by omega) (by omega) ((Cd_mk (fun hC => by have := Cd_ap iv_5 (by omega); have := Cd_ap p1107 (by omega); have := Cd_ap p1166 (by omega); omega))) (by omega) (by omega) (by omega) ((Cd_mk (fun hC => (by have hr := Cd_ap iv_9 (by omega); omega)))) (by omega) (by omega) ((Cd_mk (fun hC => (by have hr := Cd_ap iv_12 (by omega); omega)))) (by omega) (by omega) (by omega) (by omega) (by omega) (by omega) (by omega) (by omega) (sf1202) (sf1203) ((hnx _ (by omega))) (hbw) (by omega) (by omega) ((PE_i (by omega) sf1204)) ((LBd_nx iv_28 (by omega) (by omega) (by omega))) ((Cd_mk (fun hC => (gA1_nx (by omega) (Cd_ap sf1205 (by omega)) (by have hr := Cd_ap p883 (by omega); omega) (by omega) hcx ⟨_, _, lb2_1095, by omega, by omega, .inl ⟨by omega, gE_su (by omega) (by omega) (Cd_ap sf1206 (by omega))⟩, ST_e (Cd_ap sf1207 (by omega)) rfl (by omega), .inl ⟨by omega, _, gD_su (Cd_ap sf1208 (by omega)) (by omega) (by omega), ST_e (Cd_ap p1196 (by omega)) rfl (by omega)⟩⟩))))
set_option maxRecDepth 20000 in
set_option maxHeartbeats 4000000 in
theorem c_genAlt {X : jX} {k : Nat} (hN : GN X k) {dd : Nat} {T0 : Nat → Nat → Int} {Q F Sn : Int → Int} {Vs : Nat → Prop} {sb pb : Int} {c0 c1 : jC} {G : Nat → Int} {A : Nat → Nat → Int} {T : jH} {n : Int} {hi s0 s1 fr z D bd : Int} {st lg lb nw al fw : Int} (hd : 2 * k + 63 ≤ dd) (hW : Wk G A) (e_st : G 70 = st) (e_lg : G 79 = lg) (e_lb : G 77 = lb) (e_nw : G 81 = nw) (e_al : G 89 = al) (e_fw : A 51 (nw).toNat = fw) (h_n : (-2147483648 : Int) ≤ n ∧ n ≤ 2147483647) (p_0 : TA T0 A) (p_1 : FA F (nw) A) (p_2 : SA T0 Vs Sn A) (p_3 : VW T0 Vs (nw)) (p_4 : 0 ≤ nw) (p_5 : nw + (k : Int) + 1 ≤ 38) (p_6 : 0 ≤ al) (p_7 : al + (k : Int) + 1 ≤ 38) (p_8 : 0 ≤ st) (p_9 : st ≤ 7000) (p_10 : 0 ≤ lb) (p_11 : lb + bd + 7000 - st ≤ 1900000000) (p_12 : hi ≤ 6999) (p_13 : sb ≤ 202) (p_14 : 0 ≤ n) (p_15 : n < hi) (p_16 : 0 ≤ s0) (p_17 : s0 ≤ s1) (p_18 : s1 ≤ sb) (p_19 : 1 ≤ T0 18 (n).toNat) (p_20 : T0 18 (n).toNat ≤ 8) (p_21 : LN2 T0 (wG T0 Vs sb (wP T0 sb pb k Vs)) (T0 18 (n).toNat) (n) (T0 21 (n).toNat) (0) (n + 1) (hi) (s0) (s1) (n + 1) (s0)) (p_22 : VB (Vs) (s0)) (p_23 : (∀ l, CH T0 (T0 21 (n).toNat) l → ∀ c ∈ l, lG T0 (lP T0 k) (fr) (nw) (z) (D) c)) (p_24 : 0 ≤ T0 25 (n).toNat) (p_25 : T0 25 (n).toNat + 2 * T0 18 (n).toNat ≤ 4000) (p_26 : WB (n) (hi) (bd)) (p_27 : 1 ≤ fr) (p_28 : z ≤ 4000) (p_29 : 0 ≤ D) (p_30 : D ≤ 4000) (p_31 : -4000 ≤ fw - D) (p_32 : fw ≤ 0) (p_33 : pb ≤ 24) (p_34 : PV T0 pb) (p_35 : PA Q pb A) : wk X dd 359 [.ref 66, .int (i32 n)] (rV c0 c1 G A T) (fun o V_q => ∃ (G_q : Nat → Int) (A_q : Nat → Nat → Int) (st2 : Int) (lg2 : Int) (lb2 : Int) (nw2 : Int) (al2 : Int) (fw2 : Int), V_q = rV c0 c1 G_q A_q T ∧ o = .inl none ∧ Wk G_q A_q ∧ Fr [70, 77, 79, 81, 89] [13, 44, 45, 46, 47, 50, 51, 56, 57, 58] G A G_q A_q ∧ Fx [44, 45, 46, 47] (st) A A_q ∧ Fx [58] (8 * al) A A_q ∧ Fx [56, 57] (8 * nw) A A_q ∧ G_q 70 = st2 ∧ G_q 79 = lg2 ∧ G_q 77 = lb2 ∧ G_q 81 = nw2 ∧ G_q 89 = al2 ∧ A_q 51 (nw).toNat = fw2 ∧ (st ≤ st2) ∧ (st2 ≤ 7000) ∧ (lg ≤ lg2) ∧ (lg2 ≤ 1) ∧ (lb ≤ lb2) ∧ (Cd (lg2 = 0) (lb2 - lb ≤ st2 - st)) ∧ (lb2 - lb ≤ st2 - st + bd) ∧ (Cd (lg2 = 0 ∧ lb2 < 19999) (Fx [50] (lb + 1) A A_q)) ∧ (nw2 = nw) ∧ (al2 = al) ∧ (fw2 = fw) ∧ (FA F (nw) A_q) ∧ (SA T0 Vs Sn A_q) ∧ (Cd (lg2 = 0 ∧ lb2 < 19999) (gAl T0 A_q F Sn nw (gP T0 A_q Q k F Sn nw) (n) (st) (st2) (lb) (lb2))) ∧ True) := by
  obtain ⟨d, rfl⟩ : ∃ d, dd = d + 1 := ⟨dd - 1, by omega⟩
  refine wk_of (e := jm359) rfl (Nat.le_of_ble_eq_true rfl) ?_
  show wj X d jm359 (0, [(0, .ref 66), (1, .int (i32 (n)))], [], rV c0 c1 G A T) _
  have hF0 : Fr [70, 77, 79, 81, 89] [13, 44, 45, 46, 47, 50, 51, 56, 57, 58] G A G A := Fr_rf
  have hC0 : Fx [44, 45, 46, 47] (st) A A := Fx_rf
  have hAl0 : Fx [58] (8 * al) A A := Fx_rf
  have hBp0 : Fx [56, 57] (8 * nw) A A := Fx_rf
  have b_st : (-2147483648 : Int) ≤ st ∧ st ≤ 2147483647 := e_st ▸ hW.1 70
  have b_lg : (0 : Int) ≤ lg ∧ lg ≤ 1 := e_lg ▸ hW.1 79
  have b_lb : (-2147483648 : Int) ≤ lb ∧ lb ≤ 2147483647 := e_lb ▸ hW.1 77
  have b_nw : (-2147483648 : Int) ≤ nw ∧ nw ≤ 2147483647 := e_nw ▸ hW.1 81
  have b_al : (-2147483648 : Int) ≤ al ∧ al ≤ 2147483647 := e_al ▸ hW.1 89
  have b_fw : (-2147483648 : Int) ≤ fw ∧ fw ≤ 2147483647 := e_fw ▸ hW.2 51 _
  have hWT := TA_w hW p_0
  have hBo0 : Cd (lg = 0 ∧ lb < 19999) (Fx [50] (lb + 1) A A) := Cd_mk (fun _ => Fx_rf)
  have hfw := FA_at p_1 p_4 e_fw
  have hbp := WB_p p_26 (by omega) (by omega) (by omega)
  refine jx_ld (pc_q := 1) (l_q := [(0, .ref 66), (1, .int (i32 (n)))]) (st_q := [.ref 66]) rfl (jl_aloadn rfl) ?_
  refine jx_vr (pc_q := 4) (as := []) (st := []) rfl rfl rfl rfl ⟨rfl, rfl, Nat.le_of_ble_eq_true rfl⟩ rfl rfl (c_label (dd := d) (hd := by omega) (hW := hW)  (lb := lb) (e_lb := show G 77 = lb from (e_lb))    (p_0 := by omega) (p_1 := by omega)) (fun o V_q hq => ?_)
  obtain ⟨G1213, A1214, r1215, lb2_1216, rfl, rfl, hW1217, hF1218, b1219, e1220, p1221, p1222, p1223, p1224, -⟩ := hq
  have hF1226 := Fr_tr hF0 hF1218 (Fr_sub (by decide)) (Fr_sub (by decide))
  have hC1227 := Fx_f hC0 hF1218 (by decide)
  have hAl1228 := Fx_f hAl0 hF1218 (by decide)
  have hBp1229 := Fx_f hBp0 hF1218 (by decide)
  have sf1230 := FA_fr (hF1218.2 51 rfl) p_1
  have sf1231 := SA_fr (hF1218.2 13 rfl) p_2
  have blb2_1216 : (-2147483648 : Int) ≤ lb2_1216 ∧ lb2_1216 ≤ 2147483647 := e1220 ▸ hW1217.1 77
  refine .inr ⟨_, rfl, ?_⟩
  have hBo1232 : Cd (lg = 0 ∧ lb2_1216 < 19999) (Fx [50] (lb + 1) A A1214) := Cd_mk (fun hC => Fx_f (Cd_ap hBo0 (by omega)) hF1218 (by decide))
  refine jx_ld (pc_q := 5) (l_q := jSto1 [(0, .ref 66), (1, .int (i32 (n)))] 2 (.int (i32 (r1215)))) (st_q := []) rfl rfl ?_
  obtain ⟨L1233, eL1233⟩ : ∃ q, q = jSto1 [(0, .ref 66), (1, .int (i32 (n)))] 2 (.int (i32 (r1215))) := ⟨_, rfl⟩
  rw [← eL1233]
  have gL1233_0 : jGet L1233 0 = some (.ref 66) := eL1233 ▸ jg_ne (by decide) (rfl : jGet [(0, .ref 66), (1, .int (i32 (n)))] 0 = some (.ref 66)) rfl
  have gL1233_1 : jGet L1233 1 = some (.int (i32 (n))) := eL1233 ▸ jg_ne (by decide) (rfl : jGet [(0, .ref 66), (1, .int (i32 (n)))] 1 = some (.int (i32 (n)))) rfl
  have gL1233_2 : jGet L1233 2 = some (.int (i32 (r1215))) := eL1233 ▸ jg_eq
  refine jx_ld (pc_q := 6) (l_q := L1233) (st_q := [.ref 66]) rfl (jl_aloadn gL1233_0) ?_
  refine jx_vr (pc_q := 9) (as := []) (st := []) rfl rfl rfl rfl ⟨rfl, rfl, Nat.le_of_ble_eq_true rfl⟩ rfl rfl (c_label (dd := d) (hd := by omega) (hW := hW1217)  (lb := lb2_1216) (e_lb := show G1213 77 = lb2_1216 from (e1220))    (p_0 := by omega) (p_1 := by omega)) (fun o V_q hq => ?_)
  obtain ⟨G1234, A1235, r1236, lb2_1237, rfl, rfl, hW1238, hF1239, b1240, e1241, p1242, p1243, p1244, p1245, -⟩ := hq
  have hF1247 := Fr_tr hF1226 hF1239 (Fr_sub (by decide)) (Fr_sub (by decide))
  have hC1248 := Fx_f hC1227 hF1239 (by decide)
  have hAl1249 := Fx_f hAl1228 hF1239 (by decide)
  have hBp1250 := Fx_f hBp1229 hF1239 (by decide)
  have sf1251 := FA_fr (hF1239.2 51 rfl) sf1230
  have sf1252 := SA_fr (hF1239.2 13 rfl) sf1231
  have blb2_1237 : (-2147483648 : Int) ≤ lb2_1237 ∧ lb2_1237 ≤ 2147483647 := e1241 ▸ hW1238.1 77
  refine .inr ⟨_, rfl, ?_⟩
  have hBo1253 : Cd (lg = 0 ∧ lb2_1237 < 19999) (Fx [50] (lb + 1) A A1235) := Cd_mk (fun hC => Fx_f (Cd_ap hBo1232 (by omega)) hF1239 (by decide))
  refine jx_ld (pc_q := 10) (l_q := jSto1 L1233 3 (.int (i32 (r1236)))) (st_q := []) rfl rfl ?_
  obtain ⟨L1254, eL1254⟩ : ∃ q, q = jSto1 L1233 3 (.int (i32 (r1236))) := ⟨_, rfl⟩
  rw [← eL1254]
  have gL1254_0 : jGet L1254 0 = some (.ref 66) := eL1254 ▸ jg_ne (by decide) gL1233_0 rfl
  have gL1254_1 : jGet L1254 1 = some (.int (i32 (n))) := eL1254 ▸ jg_ne (by decide) gL1233_1 rfl
  have gL1254_2 : jGet L1254 2 = some (.int (i32 (r1215))) := eL1254 ▸ jg_ne (by decide) gL1233_2 rfl
  have gL1254_3 : jGet L1254 3 = some (.int (i32 (r1236))) := eL1254 ▸ jg_eq
  refine jx_ar (pc_q := 12) (st_q := [.int (i32 (8))]) rfl rfl rfl rfl ?_
  refine jx_ld (pc_q := 13) (l_q := L1254) (st_q := [.ref 66, .int (i32 (8))]) rfl (jl_aloadn gL1254_0) ?_
  refine jr_get (pc_q := 16) (i := 89) (v := .int (i32 (al))) rfl rfl (by decide) (rFv_eq (by decide) (show G1234 89 = al from ((hF1239.1 89 rfl).trans ((hF1218.1 89 rfl).trans (e_al))))) rfl ?_
  refine jx_mul (pc_q := 17) rfl rfl ?_
  have _q : True := trivial
  refine jx_ld (pc_q := 19) (l_q := jSto1 L1254 4 (.int (i32 ((8 * al))))) (st_q := []) rfl rfl ?_
  obtain ⟨L1255, eL1255⟩ : ∃ q, q = jSto1 L1254 4 (.int (i32 ((8 * al)))) := ⟨_, rfl⟩
  rw [← eL1255]
  have gL1255_0 : jGet L1255 0 = some (.ref 66) := eL1255 ▸ jg_ne (by decide) gL1254_0 rfl
  have gL1255_1 : jGet L1255 1 = some (.int (i32 (n))) := eL1255 ▸ jg_ne (by decide) gL1254_1 rfl
  have gL1255_2 : jGet L1255 2 = some (.int (i32 (r1215))) := eL1255 ▸ jg_ne (by decide) gL1254_2 rfl
  have gL1255_3 : jGet L1255 3 = some (.int (i32 (r1236))) := eL1255 ▸ jg_ne (by decide) gL1254_3 rfl
  have gL1255_4 : jGet L1255 4 = some (.int (i32 ((8 * al)))) := eL1255 ▸ jg_eq
  refine jx_ld (pc_q := 20) (l_q := L1255) (st_q := [.ref 66]) rfl (jl_aloadn gL1255_0) ?_
  refine jx_ar (pc_q := 21) (st_q := [.ref 66, .ref 66]) rfl rfl rfl rfl ?_
  refine jr_get (pc_q := 24) (i := 89) (v := .int (i32 (al))) rfl rfl (by decide) (rFv_eq (by decide) (show G1234 89 = al from ((hF1239.1 89 rfl).trans ((hF1218.1 89 rfl).trans (e_al))))) rfl ?_
  refine jx_ar (pc_q := 25) (st_q := [.int (i32 (1)), .int (i32 (al)), .ref 66]) rfl rfl rfl rfl ?_
  refine jx_add (pc_q := 26) rfl rfl ?_
  refine jr_put (pc_q := 29) (i := 89) (z := (al + 1)) rfl rfl (by decide) rfl rfl rfl rfl rfl rfl ?_
  have hW1256 : Wk (uG G1234 89 ((al + 1))) A1235 := Wk_g hW1238 (show (-2147483648 : Int) ≤ (al + 1) by omega) (show (al + 1) ≤ (2147483647 : Int) by omega)
  have hF1257 := Fr_g (z := (al + 1)) (i := 89) hF1247 (by decide)
  refine jx_ar (pc_q := 30) (st_q := [.int (i32 (0))]) rfl rfl rfl rfl ?_
  refine jx_ld (pc_q := 32) (l_q := jSto1 L1255 5 (.int (i32 (0)))) (st_q := []) rfl rfl ?_
  obtain ⟨L1258, eL1258⟩ : ∃ q, q = jSto1 L1255 5 (.int (i32 (0))) := ⟨_, rfl⟩
  rw [← eL1258]
  have gL1258_0 : jGet L1258 0 = some (.ref 66) := eL1258 ▸ jg_ne (by decide) gL1255_0 rfl
  have gL1258_1 : jGet L1258 1 = some (.int (i32 (n))) := eL1258 ▸ jg_ne (by decide) gL1255_1 rfl
  have gL1258_2 : jGet L1258 2 = some (.int (i32 (r1215))) := eL1258 ▸ jg_ne (by decide) gL1255_2 rfl
  have gL1258_3 : jGet L1258 3 = some (.int (i32 (r1236))) := eL1258 ▸ jg_ne (by decide) gL1255_3 rfl
  have gL1258_4 : jGet L1258 4 = some (.int (i32 ((8 * al)))) := eL1258 ▸ jg_ne (by decide) gL1255_4 rfl
  have gL1258_5 : jGet L1258 5 = some (.int (i32 (0))) := eL1258 ▸ jg_eq
  refine jx_ld (pc_q := 33) (l_q := L1258) (st_q := [.ref 66]) rfl (jl_aloadn gL1258_0) ?_
  refine jr_get (pc_q := 36) (i := 38) (v := .ref 88) rfl rfl (by decide) rfl rfl ?_
  refine jx_ld (pc_q := 37) (l_q := L1258) (st_q := [.int (i32 (n)), .ref 88]) rfl (jl_iloadn gL1258_1) ?_
  have b1259 : (-2147483648 : Int) ≤ T0 21 (n).toNat ∧ T0 21 (n).toNat ≤ 2147483647 := hWT.2 21 _
  refine jr_ldv (pc_q := 38) (i := 21) (m := 7000) (z := n) (y := T0 21 (n).toNat) rfl (by decide) rfl (by decide) (by omega) (by omega) rfl (show A1235 21 (n).toNat = T0 21 (n).toNat from (congrFun ((hF1239.2 21 rfl).trans ((hF1218.2 21 rfl).trans (p_0 21 rfl))) _)) ?_
  refine jx_ld (pc_q := 40) (l_q := jSto1 L1258 6 (.int (i32 (T0 21 (n).toNat)))) (st_q := []) rfl rfl ?_
  obtain ⟨L1260, eL1260⟩ : ∃ q, q = jSto1 L1258 6 (.int (i32 (T0 21 (n).toNat))) := ⟨_, rfl⟩
  rw [← eL1260]
  have gL1260_0 : jGet L1260 0 = some (.ref 66) := eL1260 ▸ jg_ne (by decide) gL1258_0 rfl
  have gL1260_1 : jGet L1260 1 = some (.int (i32 (n))) := eL1260 ▸ jg_ne (by decide) gL1258_1 rfl
  have gL1260_2 : jGet L1260 2 = some (.int (i32 (r1215))) := eL1260 ▸ jg_ne (by decide) gL1258_2 rfl
  have gL1260_3 : jGet L1260 3 = some (.int (i32 (r1236))) := eL1260 ▸ jg_ne (by decide) gL1258_3 rfl
  have gL1260_4 : jGet L1260 4 = some (.int (i32 ((8 * al)))) := eL1260 ▸ jg_ne (by decide) gL1258_4 rfl
  have gL1260_5 : jGet L1260 5 = some (.int (i32 (0))) := eL1260 ▸ jg_ne (by decide) gL1258_5 rfl
  have gL1260_6 : jGet L1260 6 = some (.int (i32 (T0 21 (n).toNat))) := eL1260 ▸ jg_eq
  exact c_genAlt_at_40 (X := X) (k := k) (hN := hN) (d := d) (T0 := T0) (Q := Q) (F := F) (Sn := Sn) (Vs := Vs) (sb := sb) (pb := pb) (c0 := c0) (c1 := c1) (G := G) (A := A) (T := T) (n := n) (hi := hi) (s0 := s0) (s1 := s1) (fr := fr) (z := z) (D := D) (bd := bd) (st := st) (lg := lg) (lb := lb) (nw := nw) (al := al) (fw := fw) (hd := hd) (hW := hW) (e_st := e_st) (e_lg := e_lg) (e_lb := e_lb) (e_nw := e_nw) (e_al := e_al) (e_fw := e_fw) (h_n := h_n) (p_0 := p_0) (p_1 := p_1) (p_2 := p_2) (p_3 := p_3) (p_4 := p_4) (p_5 := p_5) (p_6 := p_6) (p_7 := p_7) (p_8 := p_8) (p_9 := p_9) (p_10 := p_10) (p_11 := p_11) (p_12 := p_12) (p_13 := p_13) (p_14 := p_14) (p_15 := p_15) (p_16 := p_16) (p_17 := p_17) (p_18 := p_18) (p_19 := p_19) (p_20 := p_20) (p_21 := p_21) (p_22 := p_22) (p_23 := p_23) (p_24 := p_24) (p_25 := p_25) (p_26 := p_26) (p_27 := p_27) (p_28 := p_28) (p_29 := p_29) (p_30 := p_30) (p_31 := p_31) (p_32 := p_32) (p_33 := p_33) (p_34 := p_34) (p_35 := p_35) _ L1260 (uG G1234 89 ((al + 1))) A1235 (r1215) (r1236) ((8 * al)) (0) (T0 21 (n).toNat) (st) (lg) (lb2_1237) (fw) (n + 1) (s0) (0) ((fun _ => 0)) rfl gL1260_0 gL1260_1 gL1260_2 gL1260_3 gL1260_4 gL1260_5 gL1260_6 hW1256 hF1257 hC1248 hAl1249 hBp1250 (Cd_mk (fun hC => Cd_ap hBo1253 (by omega))) (((hF1239.1 70 rfl).trans ((hF1218.1 70 rfl).trans (e_st)))) (((hF1239.1 79 rfl).trans ((hF1218.1 79 rfl).trans (e_lg)))) ((e1241)) ((congrFun ((hF1239.2 51 rfl).trans (hF1218.2 51 rfl)) _).trans (e_fw)) (((hF1239.1 81 rfl).trans ((hF1218.1 81 rfl).trans (e_nw)))) (rfl) (by omega) (by omega) (by omega) (by omega) (by omega) (by omega) (by omega) (by omega) (by omega) (by omega) ((Cd_mk (fun hC => by omega))) (by omega) (by omega) (by omega) ((Cd_mk (fun hC => (by have hr := Cd_ap p1224 (by omega); omega)))) (by omega) (by omega) ((Cd_mk (fun hC => (by have hr := Cd_ap p1245 (by omega); omega)))) (by omega) (by omega) (by omega) (by omega) (by omega) (by omega) (by omega) (by omega) (sf1251) (sf1252) (p_21) ((show _ = 14000 * _ by omega)) (by omega) (by omega) ((PE_0 (by omega))) ((LBd_0 (by omega))) ((Cd_mk (fun hC => (gA1_0 rfl (by omega) (by omega)))))
