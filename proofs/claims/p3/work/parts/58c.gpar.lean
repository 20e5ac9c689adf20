set_option maxRecDepth 20000 in
set_option maxHeartbeats 4000000 in
theorem c_genPar_at_312_0 {X : jX} {k : Nat} (hN : GN X k) {d : Nat} {T0 : Nat → Nat → Int} {Q F Sn : Int → Int} {Vs : Nat → Prop} {sb pb : Int} {c0 c1 : jC} {G : Nat → Int} {A : Nat → Nat → Int} {T : jH} {n : Int} {hi s0 s1 D bd : Int} {st lg lb nw al fw : Int} (hd : 2 * k + 63 ≤ d + 1) (hW : Wk G A) (e_st : G 70 = st) (e_lg : G 79 = lg) (e_lb : G 77 = lb) (e_nw : G 81 = nw) (e_al : G 89 = al) (e_fw : A 51 (nw).toNat = fw) (h_n : (-2147483648 : Int) ≤ n ∧ n ≤ 2147483647) (p_0 : TA T0 A) (p_1 : FA F (nw) A) (p_2 : SA T0 Vs Sn A) (p_3 : VW T0 Vs (nw)) (p_4 : 0 ≤ nw) (p_5 : nw + (k : Int) + 1 ≤ 38) (p_6 : 0 ≤ al) (p_7 : al + (k : Int) + 1 ≤ 38) (p_8 : 0 ≤ st) (p_9 : st ≤ 7000) (p_10 : 0 ≤ lb) (p_11 : lb + bd + 7000 - st ≤ 1900000000) (p_12 : hi ≤ 6999) (p_13 : sb ≤ 202) (p_14 : 0 ≤ n) (p_15 : n < hi) (p_16 : 0 ≤ s0) (p_17 : s1 ≤ sb) (p_18 : KD T0 sb pb k Vs (n) (hi) (s0) (s1) (nw) (D)) (p_19 : VB (Vs) (s0)) (p_20 : T0 15 (n).toNat = 28 ∨ T0 15 (n).toNat = 29) (p_21 : 0 ≤ T0 25 (n).toNat) (p_22 : T0 25 (n).toNat + 3 ≤ 4000) (p_23 : WB (n) (hi) (bd)) (p_24 : 0 ≤ D) (p_25 : D ≤ 4000) (p_26 : -4000 ≤ fw - D) (p_27 : fw ≤ 0) (p_28 : pb ≤ 24) (p_29 : PV T0 pb) (p_30 : PA Q pb A) : ∀ (m : Nat) (L : jL) (Gx : Nat → Int) (Ax : Nat → Nat → Int) (w mn le b6 c f9 i st1 lg1 lb1 fw1 : Int) (La : Int → Int), (mn - i).toNat = m → jGet L 0 = some (.ref 66) → jGet L 1 = some (.int (i32 (n))) → jGet L 2 = some (.int (i32 (0))) → jGet L 3 = some (.int (i32 w)) → jGet L 4 = some (.int (i32 mn)) → jGet L 5 = some (.int (i32 le)) → jGet L 6 = some (.int (i32 b6)) → jGet L 8 = some (.int (i32 c)) → jGet L 9 = some (.int (i32 f9)) → jGet L 10 = some (.int (i32 i)) → Wk Gx Ax → Fr [70, 77, 79, 81, 89] [13, 44, 45, 46, 47, 50, 51, 56, 57, 58] G A Gx Ax → Fx [44, 45, 46, 47] (st) A Ax → Fx [58] (8 * al) A Ax → Fx [56, 57] (8 * nw) A Ax → Cd (lg1 = 0 ∧ lb1 < 19999) (Fx [50] (lb + 1) A Ax) → Gx 70 = st1 → Gx 79 = lg1 → Gx 77 = lb1 → Ax 51 (nw).toNat = fw1 → Gx 81 = nw → Gx 89 = al → ((-2147483648 : Int) ≤ w ∧ w ≤ 2147483647) → ((-2147483648 : Int) ≤ mn ∧ mn ≤ 2147483647) → ((-2147483648 : Int) ≤ le ∧ le ≤ 2147483647) → ((-2147483648 : Int) ≤ b6 ∧ b6 ≤ 2147483647) → ((-2147483648 : Int) ≤ c ∧ c ≤ 2147483647) → ((-2147483648 : Int) ≤ f9 ∧ f9 ≤ 2147483647) → ((-2147483648 : Int) ≤ i ∧ i ≤ 2147483647) → (st ≤ st1) → (st1 ≤ 7000) → (lg ≤ lg1) → (lg1 ≤ 1) → (lb + 2 ≤ lb1) → (Cd (lg1 = 0) (lb1 - lb ≤ st1 - st)) → (lb1 - lb ≤ st1 - st + bd - 100000) → (w = T0 25 (n).toNat) → (mn = T0 18 (n).toNat) → (b6 = 8 * nw) → (c = kid T0 n (i).toNat) → (f9 = fw) → (0 ≤ i) → (i ≤ mn) → (fw1 = fw) → (1 ≤ le) → (le ≤ 19999) → (Cd (lb1 < 20000) (le = lb + 1)) → (T0 15 (n).toNat = 28) → (FA F (nw) Ax) → (SA T0 Vs Sn Ax) → (PE 56 (La) (b6) (mn) Ax) → (PE 57 (fL T0 F nw n) (b6) (mn) Ax) → (LBd (La) (mn)) → (Cd (lg1 = 0 ∧ lb1 < 19999) (gP2 T0 Ax Q k (La) F Sn nw (n) ((i).toNat) (le) (st) (st1) (lb + 1) (lb1))) → wj X d jm358 (312, L, [], rV c0 c1 Gx Ax T) (fun o V_q => ∃ (G_q : Nat → Int) (A_q : Nat → Nat → Int) (st2 : Int) (lg2 : Int) (lb2 : Int) (nw2 : Int) (al2 : Int) (fw2 : Int), V_q = rV c0 c1 G_q A_q T ∧ o = .inl none ∧ Wk G_q A_q ∧ Fr [70, 77, 79, 81, 89] [13, 44, 45, 46, 47, 50, 51, 56, 57, 58] G A G_q A_q ∧ Fx [44, 45, 46, 47] (st) A A_q ∧ Fx [58] (8 * al) A A_q ∧ Fx [56, 57] (8 * nw) A A_q ∧ G_q 70 = st2 ∧ G_q 79 = lg2 ∧ G_q 77 = lb2 ∧ G_q 81 = nw2 ∧ G_q 89 = al2 ∧ A_q 51 (nw).toNat = fw2 ∧ (st ≤ st2) ∧ (st2 ≤ 7000) ∧ (lg ≤ lg2) ∧ (lg2 ≤ 1) ∧ (lb ≤ lb2) ∧ (Cd (lg2 = 0) (lb2 - lb ≤ st2 - st)) ∧ (lb2 - lb ≤ st2 - st + bd) ∧ (Cd (lg2 = 0 ∧ lb2 < 19999) (Fx [50] (lb + 1) A A_q)) ∧ (nw2 = nw) ∧ (al2 = al) ∧ (fw2 = fw) ∧ (FA F (nw) A_q) ∧ (SA T0 Vs Sn A_q) ∧ (Cd (lg2 = 0 ∧ lb2 < 19999) (gPa T0 A_q (gP T0 A_q Q k) F Sn nw (n) (st) (st2) (lb) (lb2))) ∧ True) := by
  have hF0 : Fr [70, 77, 79, 81, 89] [13, 44, 45, 46, 47, 50, 51, 56, 57, 58] G A G A := Fr_rf
  have hC0 : Fx [44, 45, 46, 47] (st) A A := Fx_rf
  have hAl0 : Fx [58] (8 * al) A A := Fx_rf
  have hBp0 : Fx [56, 57] (8 * nw) A A := Fx_rf
  have b_st : (-2147483648 : Int) ≤ st ∧ st ≤ 2147483647 := e_st ▸ hW.1 70
  have b_lg : (0 : Int) ≤ lg ∧ lg ≤ 1 := e_lg ▸ hW.1 79
  have b_lb : (-2147483648 : Int) ≤ lb ∧ lb ≤ 2147483647 := e_lb ▸ hW.1 77
  have b_nw : (-2147483648 : Int) ≤ nw ∧ nw ≤ 2147483647 := e_nw ▸ hW.1 81
  have b_al : (-2147483648 : Int) ≤ al ∧ al ≤ 2147483647 := e_al ▸ hW.1 89
  have b_fw : (-2147483648 : Int) ≤ fw ∧ fw ≤ 2147483647 := e_fw ▸ hW.2 51 _
  have hWT := TA_w hW p_0
  have hBo0 : Cd (lg = 0 ∧ lb < 19999) (Fx [50] (lb + 1) A A) := Cd_mk (fun _ => Fx_rf)
  have hfw := FA_at p_1 p_4 e_fw
  have hKD := p_18; obtain ⟨hk1, hk2, hk3, hk4⟩ := hKD
  have hbp := WB_p p_23 (by omega) (by omega) (by omega)
  intro m
  induction m using Nat.strongRecOn with
  | ind m ih312_0 =>
    intro L Gx Ax w mn le b6 c f9 i st1 lg1 lb1 fw1 La hm gL_0 gL_1 gL_2 gL_3 gL_4 gL_5 gL_6 gL_8 gL_9 gL_10 hWx hFx hCx hAlx hBpx hBox ex_st1 ex_lg1 ex_lb1 ex_fw1 fx_81 fx_89 rx_w rx_mn rx_le rx_b6 rx_c rx_f9 rx_i iv_0 iv_1 iv_2 iv_3 iv_4 iv_5 iv_6 iv_7 iv_8 iv_9 iv_10 iv_11 iv_12 iv_13 iv_14 iv_15 iv_16 iv_17 iv_18 iv_19 iv_20 iv_21 iv_22 iv_23 iv_24
    have b_st1 : (-2147483648 : Int) ≤ st1 ∧ st1 ≤ 2147483647 := ex_st1 ▸ hWx.1 70
    have b_lg1 : (0 : Int) ≤ lg1 ∧ lg1 ≤ 1 := ex_lg1 ▸ hWx.1 79
    have b_lb1 : (-2147483648 : Int) ≤ lb1 ∧ lb1 ≤ 2147483647 := ex_lb1 ▸ hWx.1 77
    have hmy : mny T0 n = T0 18 (n).toNat := if_neg (by omega)
    refine jx_ld (pc_q := 314) (l_q := L) (st_q := [.int (i32 (i))]) rfl (jl_iload gL_10) ?_
    refine jx_ld (pc_q := 316) (l_q := L) (st_q := [.int (i32 (mn)), .int (i32 (i))]) rfl (jl_iload gL_4) ?_
    refine jx_icmp_ge (pc_q := 319) (tg := 459) rfl rfl rfl (Int.le_trans (by decide : (-2147483648 : Int) ≤ -2147483648) rx_i.1) (Int.le_trans rx_i.2 (by decide : (2147483647 : Int) ≤ 2147483647)) (Int.le_trans (by decide : (-2147483648 : Int) ≤ -2147483648) rx_mn.1) (Int.le_trans rx_mn.2 (by decide : (2147483647 : Int) ≤ 2147483647)) (fun h1 => ?_) (fun h1 => ?_)
    · have _q := h1
      refine jx_ld (pc_q := 460) (l_q := L) (st_q := [.ref 66]) rfl (jl_aloadn gL_0) ?_
      refine jx_ld (pc_q := 462) (l_q := L) (st_q := [.int (i32 (le)), .ref 66]) rfl (jl_iload gL_5) ?_
      refine jx_vr (pc_q := 465) (as := [.int (i32 (le))]) (st := []) rfl rfl rfl rfl ⟨rfl, rfl, Nat.le_of_ble_eq_true rfl⟩ rfl rfl (c_set (dd := d) (hd := by omega) (hW := hWx) (l := le) (st := st1) (e_st := show Gx 70 = st1 from (ex_st1))  (h_l := ⟨(Int.le_trans (by decide : (-2147483648 : Int) ≤ -2147483648) rx_le.1), (Int.le_trans rx_le.2 (by decide : (2147483647 : Int) ≤ 2147483647))⟩)  (p_0 := by omega) (p_1 := by omega)) (fun o V_q hq => ?_)
      obtain ⟨G2, A3, ls2_4, rfl, rfl, hW5, hF6, e7, p8, q9⟩ := hq
      have hF10 := Fr_tr hFx hF6 (Fr_sub (by decide)) (Fr_sub (by decide))
      have hC11 := Fx_f hCx hF6 (by decide)
      have hAl12 := Fx_f hAlx hF6 (by decide)
      have hBp13 := Fx_f hBpx hF6 (by decide)
      have bls2_4 : (-2147483648 : Int) ≤ ls2_4 ∧ ls2_4 ≤ 2147483647 := e7 ▸ hW5.2 50 _
      refine .inl ⟨rfl, ?_⟩
      have a14 := q9
      have sf15 := FA_fr ((congrFun a14 51).trans (uA_ne (by decide))) iv_19
      have sf16 := SA_fr ((congrFun a14 13).trans (uA_ne (by decide))) iv_20
      have sf17 : PE 56 (La) (b6) (mn) A3 := PE_fr ((congrFun a14 56).trans (uA_ne (by decide))) iv_21
      have sf18 : PE 57 (fL T0 F nw n) (b6) (mn) A3 := PE_fr ((congrFun a14 57).trans (uA_ne (by decide))) iv_22
      have sf19 : Cd (lg1 = 0 ∧ lb1 < 19999) (gP2 T0 A3 Q k (La) F Sn nw (n) ((i).toNat) (le) (st) (st1) (lb + 1) (lb1)) := Cd_mk (fun hC => gP2_mv (Cg_set (K := st1) a14 (by omega) (by have hr := Cd_ap iv_17 (by omega); omega)) (Int.le_refl _) (Cd_ap iv_24 (by omega)))
      have hBo20 : Cd (lg1 = 0 ∧ lb1 < 19999) (Fx [50] (lb + 1) A A3) := Cd_mk (fun hC => Fx_u a14 (Cd_ap hBox (by omega)) (by omega) (by have hr := Cd_ap iv_17 (by omega); omega))
      refine jx_rt (v := none) rfl rfl rfl rfl rfl rfl ?_
      exact ⟨_, _, st1, lg1, lb1, nw, al, fw1, rfl, rfl, hW5, hF10, hC11, hAl12, hBp13, ((hF6.1 70 rfl).trans (ex_st1)), ((hF6.1 79 rfl).trans (ex_lg1)), ((hF6.1 77 rfl).trans (ex_lb1)), ((hF6.1 81 rfl).trans (fx_81)), ((hF6.1 89 rfl).trans (fx_89)), (congrFun (hF6.2 51 rfl) _).trans (ex_fw1), by omega, by omega, by omega, by omega, by omega, (Cd_mk (fun hC => by have := Cd_ap iv_5 (by omega); omega)), by omega, (Cd_mk (fun hC => Cd_ap hBo20 (by omega))), by omega, by omega, by omega, sf15, sf16, (Cd_mk (fun hC => (gPa_mk (m1 := lb + 1) (by omega) (Cd_ap sf19 (by omega)) (by omega) (LZ_mk (l0 := lb) (l1 := lb + 1) (by omega) (by have hr := Cd_ap iv_17 (by omega); omega) (by have hr := Cd_ap iv_17 (by omega); omega) ((show A3 50 (le).toNat = ls2_4 from (e7)).trans (by omega)))))), trivial⟩
    · have _q := h1
      have _q : True := trivial
      refine jx_ld (pc_q := 320) (l_q := L) (st_q := [.ref 66]) rfl (jl_aloadn gL_0) ?_
      refine jr_get (pc_q := 323) (i := 79) (v := .int (i32 (lg1))) rfl rfl (by decide) (rFv_eq (by decide) (show Gx 79 = lg1 from (ex_lg1))) rfl ?_
      refine jx_if_ne (pc_q := 326) (tg := 459) rfl rfl rfl (Int.le_trans (by decide : (-2147483648 : Int) ≤ 0) b_lg1.1) (Int.le_trans b_lg1.2 (by decide : (1 : Int) ≤ 2147483647)) (fun h21 => ?_) (fun h21 => ?_)
      · have _q := h21
        refine jx_ld (pc_q := 460) (l_q := L) (st_q := [.ref 66]) rfl (jl_aloadn gL_0) ?_
        refine jx_ld (pc_q := 462) (l_q := L) (st_q := [.int (i32 (le)), .ref 66]) rfl (jl_iload gL_5) ?_
        refine jx_vr (pc_q := 465) (as := [.int (i32 (le))]) (st := []) rfl rfl rfl rfl ⟨rfl, rfl, Nat.le_of_ble_eq_true rfl⟩ rfl rfl (c_set (dd := d) (hd := by omega) (hW := hWx) (l := le) (st := st1) (e_st := show Gx 70 = st1 from (ex_st1))  (h_l := ⟨(Int.le_trans (by decide : (-2147483648 : Int) ≤ -2147483648) rx_le.1), (Int.le_trans rx_le.2 (by decide : (2147483647 : Int) ≤ 2147483647))⟩)  (p_0 := by omega) (p_1 := by omega)) (fun o V_q hq => ?_)
        obtain ⟨G22, A23, ls2_24, rfl, rfl, hW25, hF26, e27, p28, q29⟩ := hq
        have hF30 := Fr_tr hFx hF26 (Fr_sub (by decide)) (Fr_sub (by decide))
        have hC31 := Fx_f hCx hF26 (by decide)
        have hAl32 := Fx_f hAlx hF26 (by decide)
        have hBp33 := Fx_f hBpx hF26 (by decide)
        have bls2_24 : (-2147483648 : Int) ≤ ls2_24 ∧ ls2_24 ≤ 2147483647 := e27 ▸ hW25.2 50 _
        refine .inl ⟨rfl, ?_⟩
        have a34 := q29
        have sf35 := FA_fr ((congrFun a34 51).trans (uA_ne (by decide))) iv_19
        have sf36 := SA_fr ((congrFun a34 13).trans (uA_ne (by decide))) iv_20
        have sf37 : PE 56 (La) (b6) (mn) A23 := PE_fr ((congrFun a34 56).trans (uA_ne (by decide))) iv_21
        have sf38 : PE 57 (fL T0 F nw n) (b6) (mn) A23 := PE_fr ((congrFun a34 57).trans (uA_ne (by decide))) iv_22
        have sf39 : Cd (lg1 = 0 ∧ lb1 < 19999) (gP2 T0 A23 Q k (La) F Sn nw (n) ((i).toNat) (le) (st) (st1) (lb + 1) (lb1)) := Cd_mk (fun hC => gP2_mv (Cg_set (K := st1) a34 (by omega) (by have hr := Cd_ap iv_17 (by omega); omega)) (Int.le_refl _) (Cd_ap iv_24 (by omega)))
        have hBo40 : Cd (lg1 = 0 ∧ lb1 < 19999) (Fx [50] (lb + 1) A A23) := Cd_mk (fun hC => Fx_u a34 (Cd_ap hBox (by omega)) (by omega) (by have hr := Cd_ap iv_17 (by omega); omega))
        refine jx_rt (v := none) rfl rfl rfl rfl rfl rfl ?_
        exact ⟨_, _, st1, lg1, lb1, nw, al, fw1, rfl, rfl, hW25, hF30, hC31, hAl32, hBp33, ((hF26.1 70 rfl).trans (ex_st1)), ((hF26.1 79 rfl).trans (ex_lg1)), ((hF26.1 77 rfl).trans (ex_lb1)), ((hF26.1 81 rfl).trans (fx_81)), ((hF26.1 89 rfl).trans (fx_89)), (congrFun (hF26.2 51 rfl) _).trans (ex_fw1), by omega, by omega, by omega, by omega, by omega, (Cd_mk (fun hC => by have := Cd_ap iv_5 (by omega); omega)), by omega, (Cd_mk (fun hC => Cd_ap hBo40 (by omega))), by omega, by omega, by omega, sf35, sf36, (Cd_mk (fun hC => (absurd hC.1 (by omega)))), trivial⟩
      · have _q := h21
        obtain ⟨hj1, ⟨a8, b8, u8, v8, ha8, hb8, hu8, hu9, hv8, hw8⟩, hj3, hj4, hj5, hj6, hj7⟩ := hk4 (i).toNat (by omega); have hin8 := wP_in hw8; have hk26 : T0 26 (c).toNat = T0 26 (kid T0 n (i).toNat).toNat := (by rw [iv_10]); have hk27 : T0 27 (c).toNat = T0 27 (kid T0 n (i).toNat).toNat := (by rw [iv_10]); have hk22 : T0 22 (c).toNat = T0 22 (kid T0 n (i).toNat).toNat := (by rw [iv_10]); have hla : Ax 56 (b6 + i).toNat = La i := iv_21 i (by omega) (by omega); have hlb := iv_23 i (by omega) (by omega); have hfl : Ax 57 (b6 + i).toNat = F nw - dpt T0 n (i).toNat - T0 26 (kid T0 n (i).toNat).toNat := iv_22 i (by omega) (by omega); have hks := kid_s (T := T0) (p := n) (i := i) (by omega) iv_18; have hf1 := Cd_ap iv_5 (by omega)
        refine jx_ld (pc_q := 327) (l_q := L) (st_q := [.ref 66]) rfl (jl_aloadn gL_0) ?_
        refine jx_ld (pc_q := 328) (l_q := L) (st_q := [.ref 66, .ref 66]) rfl (jl_aloadn gL_0) ?_
        refine jr_get (pc_q := 331) (i := 86) (v := .ref 123) rfl rfl (by decide) rfl rfl ?_
        refine jx_ld (pc_q := 333) (l_q := L) (st_q := [.int (i32 (b6)), .ref 123, .ref 66]) rfl (jl_iload gL_6) ?_
        refine jx_ld (pc_q := 335) (l_q := L) (st_q := [.int (i32 (i)), .int (i32 (b6)), .ref 123, .ref 66]) rfl (jl_iload gL_10) ?_
        refine jx_add (pc_q := 336) rfl rfl ?_
        have b41 : (-2147483648 : Int) ≤ Ax 56 ((b6 + i)).toNat ∧ Ax 56 ((b6 + i)).toNat ≤ 2147483647 := hWx.2 56 _
        refine jr_ldv (pc_q := 337) (i := 56) (m := 320) (z := (b6 + i)) (y := Ax 56 ((b6 + i)).toNat) rfl (by decide) rfl (by decide) (by omega) (by omega) rfl (show Ax 56 ((b6 + i)).toNat = Ax 56 ((b6 + i)).toNat from rfl) ?_
        refine jx_vr (pc_q := 340) (as := [.int (i32 (Ax 56 ((b6 + i)).toNat))]) (st := []) rfl rfl rfl rfl ⟨rfl, rfl, Nat.le_of_ble_eq_true rfl⟩ rfl rfl (c_set (dd := d) (hd := by omega) (hW := hWx) (l := Ax 56 ((b6 + i)).toNat) (st := st1) (e_st := show Gx 70 = st1 from (ex_st1))  (h_l := ⟨(Int.le_trans (by decide : (-2147483648 : Int) ≤ -2147483648) b41.1), (Int.le_trans b41.2 (by decide : (2147483647 : Int) ≤ 2147483647))⟩)  (p_0 := by omega) (p_1 := by omega)) (fun o V_q hq => ?_)
        obtain ⟨G42, A43, ls2_44, rfl, rfl, hW45, hF46, e47, p48, q49⟩ := hq
        have hF50 := Fr_tr hFx hF46 (Fr_sub (by decide)) (Fr_sub (by decide))
        have hC51 := Fx_f hCx hF46 (by decide)
        have hAl52 := Fx_f hAlx hF46 (by decide)
        have hBp53 := Fx_f hBpx hF46 (by decide)
        have bls2_44 : (-2147483648 : Int) ≤ ls2_44 ∧ ls2_44 ≤ 2147483647 := e47 ▸ hW45.2 50 _
        refine .inl ⟨rfl, ?_⟩
        have a54 := q49
        have sf55 := FA_fr ((congrFun a54 51).trans (uA_ne (by decide))) iv_19
        have sf56 := SA_fr ((congrFun a54 13).trans (uA_ne (by decide))) iv_20
        have sf57 : PE 56 (La) (b6) (mn) A43 := PE_fr ((congrFun a54 56).trans (uA_ne (by decide))) iv_21
        have sf58 : PE 57 (fL T0 F nw n) (b6) (mn) A43 := PE_fr ((congrFun a54 57).trans (uA_ne (by decide))) iv_22
        have sf59 : Cd (lg1 = 0 ∧ lb1 < 19999) (gP2 T0 A43 Q k (La) F Sn nw (n) ((i).toNat) (le) (st) (st1) (lb + 1) (lb1)) := Cd_mk (fun hC => gP2_set a54 hla (by omega) (by omega) (Cd_ap iv_24 (by omega)))
        have hBo60 : Cd (lg1 = 0 ∧ lb1 < 19999) (Fx [50] (lb + 1) A A43) := Cd_mk (fun hC => Fx_u a54 (Cd_ap hBox (by omega)) (by omega) (by have q := gP2_La (i := i) (Cd_ap sf59 (by omega)) (by omega) (by omega); omega))
        have hlsi : Cd (lg1 = 0 ∧ lb1 < 19999) (LZ A43 (La i) (st1) (lb + 1) (lb1)) := Cd_mk (fun hC => LZ_mk2 hla (by omega) (gP2_La (Cd_ap sf59 (by omega)) (by omega) (by omega)) ((show A43 50 (Ax 56 ((b6 + i)).toNat).toNat = ls2_44 from (e47)).trans (by omega)))
        refine jx_ld (pc_q := 341) (l_q := L) (st_q := [.int (i32 (0))]) rfl (jl_iloadn gL_2) ?_
        refine jx_if_eq (pc_q := 344) (tg := 364) rfl rfl rfl (by decide) (by decide) (fun h61 => ?_) (fun h61 => ?_)
        · have _q := h61
          have hSAk := SA_k28 (n := n) (j := (i).toNat) iv_18 sf56
          refine jx_ld (pc_q := 365) (l_q := L) (st_q := [.ref 66]) rfl (jl_aloadn gL_0) ?_
          refine jx_ar (pc_q := 366) (st_q := [.ref 66, .ref 66]) rfl rfl rfl rfl ?_
          refine jr_get (pc_q := 369) (i := 81) (v := .int (i32 (nw))) rfl rfl (by decide) (rFv_eq (by decide) (show G42 81 = nw from ((hF46.1 81 rfl).trans (fx_81)))) rfl ?_
          refine jx_ar (pc_q := 370) (st_q := [.int (i32 (1)), .int (i32 (nw)), .ref 66]) rfl rfl rfl rfl ?_
          refine jx_add (pc_q := 371) rfl rfl ?_
          refine jr_put (pc_q := 374) (i := 81) (z := (nw + 1)) rfl rfl (by decide) rfl rfl rfl rfl rfl rfl ?_
          have hW62 : Wk (uG G42 81 ((nw + 1))) A43 := Wk_g hW45 (show (-2147483648 : Int) ≤ (nw + 1) by omega) (show (nw + 1) ≤ (2147483647 : Int) by omega)
          have hF63 := Fr_g (z := (nw + 1)) (i := 81) hF50 (by decide)
          refine jx_ld (pc_q := 375) (l_q := L) (st_q := [.ref 66]) rfl (jl_aloadn gL_0) ?_
          refine jr_get (pc_q := 378) (i := 80) (v := .ref 118) rfl rfl (by decide) rfl rfl ?_
          refine jx_ld (pc_q := 379) (l_q := L) (st_q := [.ref 66, .ref 118]) rfl (jl_aloadn gL_0) ?_
          refine jr_get (pc_q := 382) (i := 81) (v := .int (i32 ((nw + 1)))) rfl rfl (by decide) rfl rfl ?_
          refine jx_ld (pc_q := 383) (l_q := L) (st_q := [.ref 66, .int (i32 ((nw + 1))), .ref 118]) rfl (jl_aloadn gL_0) ?_
          refine jr_get (pc_q := 386) (i := 87) (v := .ref 124) rfl rfl (by decide) rfl rfl ?_
          refine jx_ld (pc_q := 388) (l_q := L) (st_q := [.int (i32 (b6)), .ref 124, .int (i32 ((nw + 1))), .ref 118]) rfl (jl_iload gL_6) ?_
          refine jx_ld (pc_q := 390) (l_q := L) (st_q := [.int (i32 (i)), .int (i32 (b6)), .ref 124, .int (i32 ((nw + 1))), .ref 118]) rfl (jl_iload gL_10) ?_
          refine jx_add (pc_q := 391) rfl rfl ?_
          have _q : True := trivial
          have b64 : (-2147483648 : Int) ≤ Ax 57 ((b6 + i)).toNat ∧ Ax 57 ((b6 + i)).toNat ≤ 2147483647 := hWx.2 57 _
          refine jr_ldv (pc_q := 392) (i := 57) (m := 320) (z := (b6 + i)) (y := Ax 57 ((b6 + i)).toNat) rfl (by decide) rfl (by decide) (by omega) (by omega) rfl (show A43 57 ((b6 + i)).toNat = Ax 57 ((b6 + i)).toNat from (congrFun (hF46.2 57 rfl) _)) ?_
          have _q : True := trivial
          refine jr_st (pc_q := 393) (i := 51) (m := 40) (z := (nw + 1)) (y := Ax 57 ((b6 + i)).toNat) rfl (by decide) rfl (by decide) (by omega) (by omega) rfl ?_
          have hW66 : Wk (uG G42 81 ((nw + 1))) (uA A43 51 ((nw + 1)).toNat (Ax 57 ((b6 + i)).toNat)) := Wk_a hW62 (show (-2147483648 : Int) ≤ Ax 57 ((b6 + i)).toNat by omega) (show Ax 57 ((b6 + i)).toNat ≤ (2147483647 : Int) by omega)
          have hF67 := Fr_a (z := Ax 57 ((b6 + i)).toNat) (k := 51) (n := ((nw + 1)).toNat) hF63 (by decide)
          obtain ⟨A65, eA65⟩ : ∃ q, q = uA A43 51 ((nw + 1)).toNat (Ax 57 ((b6 + i)).toNat) := ⟨_, rfl⟩
          rw [← eA65]
          rw [← eA65] at hW66 hF67
          have q68 : A65 51 ((nw + 1)).toNat = Ax 57 ((b6 + i)).toNat := by rw [eA65]; exact uA_eq
          have hC69 : Fx [44, 45, 46, 47] (st) A A65 := eA65 ▸ Fx_n hC51 rfl
          have hAl70 : Fx [58] (8 * al) A A65 := eA65 ▸ Fx_n hAl52 rfl
          have hBp71 : Fx [56, 57] (8 * nw) A A65 := eA65 ▸ Fx_n hBp53 rfl
          have sf72 := SA_fr ((congrFun eA65 13).trans (uA_ne (by decide))) sf56
          have sf73 : PE 56 (La) (b6) (mn) A65 := PE_fr ((congrFun eA65 56).trans (uA_ne (by decide))) sf57
          have sf74 : PE 57 (fL T0 F nw n) (b6) (mn) A65 := PE_fr ((congrFun eA65 57).trans (uA_ne (by decide))) sf58
          have sf75 : Cd (lg1 = 0 ∧ lb1 < 19999) (gP2 T0 A65 Q k (La) F Sn nw (n) ((i).toNat) (le) (st) (st1) (lb + 1) (lb1)) := Cd_mk (fun hC => gP2_mv (Cg_ne (K := st1) eA65 rfl) (Int.le_refl _) (Cd_ap sf59 (by omega)))
          have sf76 : Cd (lg1 = 0 ∧ lb1 < 19999) (LZ A65 (La i) (st1) (lb + 1) (lb1)) := Cd_mk (fun hC => LZ_mv (Cg_ne (K := st1) eA65 rfl) (Int.le_refl _) (Cd_ap hlsi (by omega)))
          have sf77 := SA_fr ((congrFun eA65 13).trans (uA_ne (by decide))) hSAk
          have hBo78 : Cd (lg1 = 0 ∧ lb1 < 19999) (Fx [50] (lb + 1) A A65) := Cd_mk (fun hC => Fx_un eA65 (Cd_ap hBo60 (by omega)) rfl)
          obtain ⟨b1, hb1⟩ : ∃ b, WB a8 b8 b := WB_ex _ _; have hbb := WB_in p_23 hb1 (by omega) (by omega) (by omega); have hFAk := FA_st (F := F) (F_q := fB T0 F nw n (i).toNat) eA65 sf55 p_4 (by omega) fB_l (fB_n.trans (by omega)) (by omega) (by omega); have hVWk := VW_kd (n := n) p_3 (fun q => by rw [(hk3 q).1]; exact (hk3 q).2.2.2); have hVBk := VB_kd (T := T0) (n := n) (u := u8) p_19 (by omega) (fun q => ⟨(hk3 q).1, hu9 q⟩)
          refine jx_ld (pc_q := 394) (l_q := L) (st_q := [.ref 66]) rfl (jl_aloadn gL_0) ?_
          refine jx_ld (pc_q := 396) (l_q := L) (st_q := [.int (i32 (c)), .ref 66]) rfl (jl_iload gL_8) ?_
          refine jx_vr (pc_q := 399) (as := [.int (i32 (c))]) (st := []) rfl rfl rfl rfl ⟨rfl, rfl, Nat.le_of_ble_eq_true rfl⟩ rfl rfl (hN (dd := d) (hd := by omega) (hW := hW66) (p := c) (lo := a8) (hi := b8) (s0 := u8) (s1 := v8) (fr := 1) (z := T0 26 (c).toNat) (D := T0 27 (c).toNat) (bd := b1) (st := st1) (e_st := show (uG G42 81 ((nw + 1))) 70 = st1 from ((hF46.1 70 rfl).trans (ex_st1))) (lg := lg1) (e_lg := show (uG G42 81 ((nw + 1))) 79 = lg1 from ((hF46.1 79 rfl).trans (ex_lg1))) (lb := lb1) (e_lb := show (uG G42 81 ((nw + 1))) 77 = lb1 from ((hF46.1 77 rfl).trans (ex_lb1))) (nw := (nw + 1)) (e_nw := show (uG G42 81 ((nw + 1))) 81 = (nw + 1) from rfl) (al := al) (e_al := show (uG G42 81 ((nw + 1))) 89 = al from ((hF46.1 89 rfl).trans (fx_89))) (fw := Ax 57 ((b6 + i)).toNat) (e_fw := show A65 51 ((nw + 1)).toNat = Ax 57 ((b6 + i)).toNat from (q68))  (h_p := ⟨(Int.le_trans (by decide : (-2147483648 : Int) ≤ -2147483648) rx_c.1), (Int.le_trans rx_c.2 (by decide : (2147483647 : Int) ≤ 2147483647))⟩)  (p_0 := (TA_fr hF67 (by decide) p_0)) (p_1 := hFAk) (p_2 := sf77) (p_3 := hVWk) (p_4 := by omega) (p_5 := by omega) (p_6 := by omega) (p_7 := by omega) (p_8 := by omega) (p_9 := by omega) (p_10 := by omega) (p_11 := by omega) (p_12 := by omega) (p_13 := by omega) (p_14 := by omega) (p_15 := by omega) (p_16 := by omega) (p_17 := (wP_c iv_10 hw8)) (p_18 := (VB_mo hVBk (by omega))) (p_19 := (lP_c iv_10 hj3)) (p_20 := hb1) (p_21 := by omega) (p_22 := by omega) (p_23 := by omega) (p_24 := by omega) (p_25 := by omega) (p_26 := by omega) (p_27 := by omega) (p_28 := p_29) (p_29 := (PA_fr (hF67.2 52 rfl) p_30))) (fun o V_q hq => ?_)
          obtain ⟨G79, A80, st2_81, lg2_82, lb2_83, nw2_84, al2_85, fw2_86, rfl, rfl, hW87, hF88, hQ89, hQ90, hQ91, e92, e93, e94, e95, e96, e97, p98, p99, p100, p101, p102, p103, p104, p105, p106, p107, p108, p109, p110, p111, -⟩ := hq
          have hF113 := Fr_tr hF67 hF88 (Fr_sub (by decide)) (Fr_sub (by decide))
          have hC114 := Fx_tr hC69 hQ89 (by omega)
          have hAl115 := Fx_tr hAl70 hQ90 (by omega)
          have hBp116 := Fx_tr hBp71 hQ91 (by omega)
          have sf117 : PE 56 (La) (b6) (mn) A80 := PE_fx hQ91 rfl (by omega) (by omega) sf73
          have sf118 : PE 57 (fL T0 F nw n) (b6) (mn) A80 := PE_fx hQ91 rfl (by omega) (by omega) sf74
          have bst2_81 : (-2147483648 : Int) ≤ st2_81 ∧ st2_81 ≤ 2147483647 := e92 ▸ hW87.1 70
          have blg2_82 : (0 : Int) ≤ lg2_82 ∧ lg2_82 ≤ 1 := e93 ▸ hW87.1 79
          have blb2_83 : (-2147483648 : Int) ≤ lb2_83 ∧ lb2_83 ≤ 2147483647 := e94 ▸ hW87.1 77
          have bnw2_84 : (-2147483648 : Int) ≤ nw2_84 ∧ nw2_84 ≤ 2147483647 := e95 ▸ hW87.1 81
          have bal2_85 : (-2147483648 : Int) ≤ al2_85 ∧ al2_85 ≤ 2147483647 := e96 ▸ hW87.1 89
          have bfw2_86 : (-2147483648 : Int) ≤ fw2_86 ∧ fw2_86 ≤ 2147483647 := e97 ▸ hW87.2 51 _
          refine .inl ⟨rfl, ?_⟩
          have sf119 : Cd (lg2_82 = 0 ∧ lb2_83 < 19999) (gP2 T0 A80 Q k (La) F Sn nw (n) ((i).toNat) (le) (st) (st1) (lb + 1) (lb1)) := Cd_mk (fun hC => gP2_mv (Cg_fx (l0 := lb + 1) (l1 := lb1) hQ89 (Cd_ap p105 (by omega)) (by omega)) (by omega) (Cd_ap sf75 (by omega)))
          have sf120 : Cd (lg2_82 = 0 ∧ lb2_83 < 19999) (LZ A80 (La i) (st1) (lb + 1) (lb1)) := Cd_mk (fun hC => LZ_mv (Cg_fx (l0 := lb + 1) (l1 := lb1) hQ89 (Cd_ap p105 (by omega)) (by omega)) (by omega) (Cd_ap sf76 (by omega)))
          have hBo121 : Cd (lg2_82 = 0 ∧ lb2_83 < 19999) (Fx [50] (lb + 1) A A80) := Cd_mk (fun hC => Fx_tr (Cd_ap hBo78 (by omega)) (Cd_ap p105 (by omega)) (by omega))
          have hfl2 : A80 57 (b6 + i).toNat = F nw - dpt T0 n (i).toNat - T0 26 (kid T0 n (i).toNat).toNat := sf118 i (by omega) (by omega)
          refine jx_ld (pc_q := 400) (l_q := L) (st_q := [.ref 66]) rfl (jl_aloadn gL_0) ?_
          refine jx_ar (pc_q := 401) (st_q := [.int (i32 (1)), .ref 66]) rfl rfl rfl rfl ?_
          refine jx_ld (pc_q := 402) (l_q := L) (st_q := [.int (i32 (w)), .int (i32 (1)), .ref 66]) rfl (jl_iloadn gL_3) ?_
          refine jx_ld (pc_q := 404) (l_q := L) (st_q := [.int (i32 (f9)), .int (i32 (w)), .int (i32 (1)), .ref 66]) rfl (jl_iload gL_9) ?_
          refine jx_add (pc_q := 405) rfl rfl ?_
          refine jx_ld (pc_q := 406) (l_q := L) (st_q := [.ref 66, .int (i32 ((w + f9))), .int (i32 (1)), .ref 66]) rfl (jl_aloadn gL_0) ?_
          refine jr_get (pc_q := 409) (i := 87) (v := .ref 124) rfl rfl (by decide) rfl rfl ?_
          refine jx_ld (pc_q := 411) (l_q := L) (st_q := [.int (i32 (b6)), .ref 124, .int (i32 ((w + f9))), .int (i32 (1)), .ref 66]) rfl (jl_iload gL_6) ?_
          refine jx_ld (pc_q := 413) (l_q := L) (st_q := [.int (i32 (i)), .int (i32 (b6)), .ref 124, .int (i32 ((w + f9))), .int (i32 (1)), .ref 66]) rfl (jl_iload gL_10) ?_
          refine jx_add (pc_q := 414) rfl rfl ?_
          have b122 : (-2147483648 : Int) ≤ A80 57 ((b6 + i)).toNat ∧ A80 57 ((b6 + i)).toNat ≤ 2147483647 := hW87.2 57 _
          refine jr_ldv (pc_q := 415) (i := 57) (m := 320) (z := (b6 + i)) (y := A80 57 ((b6 + i)).toNat) rfl (by decide) rfl (by decide) (by omega) (by omega) rfl (show A80 57 ((b6 + i)).toNat = A80 57 ((b6 + i)).toNat from rfl) ?_
          refine jx_sub (pc_q := 416) rfl rfl ?_
          refine jx_vr (pc_q := 419) (as := [.int (i32 (1)), .int (i32 (((w + f9) - A80 57 ((b6 + i)).toNat)))]) (st := []) rfl rfl rfl rfl ⟨rfl, rfl, Nat.le_of_ble_eq_true rfl⟩ rfl rfl (c_emit (dd := d) (hd := by omega) (hW := hW87) (fn := 1) (v := ((w + f9) - A80 57 ((b6 + i)).toNat)) (st := st2_81) (e_st := show G79 70 = st2_81 from (e92)) (lg := lg2_82) (e_lg := show G79 79 = lg2_82 from (e93))  (h_fn := ⟨(by decide), (by decide)⟩) (h_v := ⟨(by omega), (by omega)⟩)  (p_0 := by omega) (p_1 := by omega)) (fun o V_q hq => ?_)
          obtain ⟨G123, A124, st2_125, lg2_126, rfl, rfl, hW127, hF128, hQ129, e130, e131, p132, p133, p134, p135, p136, p137, -⟩ := hq
          have hF139 := Fr_tr hF113 hF128 (Fr_sub (by decide)) (Fr_sub (by decide))
          have hC140 := Fx_tr hC114 hQ129 (by omega)
          have hAl141 := Fx_f hAl115 hF128 (by decide)
          have hBp142 := Fx_f hBp116 hF128 (by decide)
          have sf143 : PE 56 (La) (b6) (mn) A124 := PE_fr (hF128.2 56 rfl) sf117
          have sf144 : PE 57 (fL T0 F nw n) (b6) (mn) A124 := PE_fr (hF128.2 57 rfl) sf118
          have sf145 := FA_fr (hF128.2 51 rfl) p109
          have sf146 := SA_fr (hF128.2 13 rfl) p110
          have bst2_125 : (-2147483648 : Int) ≤ st2_125 ∧ st2_125 ≤ 2147483647 := e130 ▸ hW127.1 70
          have blg2_126 : (0 : Int) ≤ lg2_126 ∧ lg2_126 ≤ 1 := e131 ▸ hW127.1 79
          refine .inl ⟨rfl, ?_⟩
          have sf147 : Cd (lg2_126 = 0 ∧ lb2_83 < 19999) (gP2 T0 A124 Q k (La) F Sn nw (n) ((i).toNat) (le) (st) (st1) (lb + 1) (lb1)) := Cd_mk (fun hC => gP2_mv (Cg_fx (l0 := lb + 1) (l1 := lb1) hQ129 (Fx_f (w := lb1 + 1) Fx_rf hF128 (by decide)) (by omega)) (by omega) (Cd_ap sf119 (by omega)))
          have sf148 : Cd (lg2_126 = 0 ∧ lb2_83 < 19999) (LZ A124 (La i) (st1) (lb + 1) (lb1)) := Cd_mk (fun hC => LZ_mv (Cg_fx (l0 := lb + 1) (l1 := lb1) hQ129 (Fx_f (w := lb1 + 1) Fx_rf hF128 (by decide)) (by omega)) (by omega) (Cd_ap sf120 (by omega)))
          have sf149 : Cd (lg2_126 = 0 ∧ lb2_83 < 19999) (gP T0 A124 Q (k) (fB T0 F nw n (i).toNat) (sB T0 Sn n (i).toNat) (nw + 1) (c) (st1) (st2_81) (lb1) (lb2_83)) := Cd_mk (fun hC => gP_mv (Cg_fx (l0 := lb1) (l1 := lb2_83) hQ129 (Fx_f (w := lb2_83 + 1) Fx_rf hF128 (by decide)) (by omega)) (by omega) (Cd_ap p111 (by omega)))
          have hBo150 : Cd (lg2_126 = 0 ∧ lb2_83 < 19999) (Fx [50] (lb + 1) A A124) := Cd_mk (fun hC => Fx_f (Cd_ap hBo121 (by omega)) hF128 (by decide))
          refine jx_ld (pc_q := 420) (l_q := L) (st_q := [.ref 66]) rfl (jl_aloadn gL_0) ?_
          refine jx_ar (pc_q := 422) (st_q := [.int (i32 (17)), .ref 66]) rfl rfl rfl rfl ?_
          refine jx_vr (pc_q := 425) (as := [.int (i32 (17))]) (st := []) rfl rfl rfl rfl ⟨rfl, rfl, Nat.le_of_ble_eq_true rfl⟩ rfl rfl (c_op (dd := d) (hd := by omega) (hW := hW127) (oo := 17) (st := st2_125) (e_st := show G123 70 = st2_125 from (e130)) (lg := lg2_126) (e_lg := show G123 79 = lg2_126 from (e131))  (h_oo := ⟨(by decide), (by decide)⟩)  (p_0 := by omega) (p_1 := by omega)) (fun o V_q hq => ?_)
          obtain ⟨G151, A152, st2_153, lg2_154, rfl, rfl, hW155, hF156, hQ157, e158, e159, p160, p161, p162, p163, p164, p165, -⟩ := hq
          have hF167 := Fr_tr hF139 hF156 (Fr_sub (by decide)) (Fr_sub (by decide))
          have hC168 := Fx_tr hC140 hQ157 (by omega)
          have hAl169 := Fx_f hAl141 hF156 (by decide)
          have hBp170 := Fx_f hBp142 hF156 (by decide)
          have sf171 : PE 56 (La) (b6) (mn) A152 := PE_fr (hF156.2 56 rfl) sf143
          have sf172 : PE 57 (fL T0 F nw n) (b6) (mn) A152 := PE_fr (hF156.2 57 rfl) sf144
          have sf173 := FA_fr (hF156.2 51 rfl) sf145
          have sf174 := SA_fr (hF156.2 13 rfl) sf146
          have bst2_153 : (-2147483648 : Int) ≤ st2_153 ∧ st2_153 ≤ 2147483647 := e158 ▸ hW155.1 70
          have blg2_154 : (0 : Int) ≤ lg2_154 ∧ lg2_154 ≤ 1 := e159 ▸ hW155.1 79
          refine .inl ⟨rfl, ?_⟩
          have sf175 : Cd (lg2_154 = 0 ∧ lb2_83 < 19999) (gP2 T0 A152 Q k (La) F Sn nw (n) ((i).toNat) (le) (st) (st1) (lb + 1) (lb1)) := Cd_mk (fun hC => gP2_mv (Cg_fx (l0 := lb + 1) (l1 := lb1) hQ157 (Fx_f (w := lb1 + 1) Fx_rf hF156 (by decide)) (by omega)) (by omega) (Cd_ap sf147 (by omega)))
          have sf176 : Cd (lg2_154 = 0 ∧ lb2_83 < 19999) (LZ A152 (La i) (st1) (lb + 1) (lb1)) := Cd_mk (fun hC => LZ_mv (Cg_fx (l0 := lb + 1) (l1 := lb1) hQ157 (Fx_f (w := lb1 + 1) Fx_rf hF156 (by decide)) (by omega)) (by omega) (Cd_ap sf148 (by omega)))
          have sf177 : Cd (lg2_154 = 0 ∧ lb2_83 < 19999) (gP T0 A152 Q (k) (fB T0 F nw n (i).toNat) (sB T0 Sn n (i).toNat) (nw + 1) (c) (st1) (st2_81) (lb1) (lb2_83)) := Cd_mk (fun hC => gP_mv (Cg_fx (l0 := lb1) (l1 := lb2_83) hQ157 (Fx_f (w := lb2_83 + 1) Fx_rf hF156 (by decide)) (by omega)) (by omega) (Cd_ap sf149 (by omega)))
          have sf178 : Cd (lg2_154 = 0 ∧ lb2_83 < 19999) (ST A152 (st2_81) (st2_125) (1) ((w + f9) - A80 57 ((b6 + i)).toNat)) := Cd_mk (fun hC => ST_mv (Cg_fx (l0 := 0) (l1 := 0) hQ157 (Fx_f (w := 0 + 1) Fx_rf hF156 (by decide)) (by omega)) (by omega) (Cd_ap p137 (by omega)))
          have hBo179 : Cd (lg2_154 = 0 ∧ lb2_83 < 19999) (Fx [50] (lb + 1) A A152) := Cd_mk (fun hC => Fx_f (Cd_ap hBo150 (by omega)) hF156 (by decide))
          refine jx_ld (pc_q := 426) (l_q := L) (st_q := [.ref 66]) rfl (jl_aloadn gL_0) ?_
          refine jx_ar (pc_q := 427) (st_q := [.ref 66, .ref 66]) rfl rfl rfl rfl ?_
          refine jr_get (pc_q := 430) (i := 81) (v := .int (i32 (nw2_84))) rfl rfl (by decide) (rFv_eq (by decide) (show G151 81 = nw2_84 from ((hF156.1 81 rfl).trans ((hF128.1 81 rfl).trans (e95))))) rfl ?_
          refine jx_ar (pc_q := 431) (st_q := [.int (i32 (1)), .int (i32 (nw2_84)), .ref 66]) rfl rfl rfl rfl ?_
          refine jx_sub (pc_q := 432) rfl rfl ?_
          refine jr_put (pc_q := 435) (i := 81) (z := (nw2_84 - 1)) rfl rfl (by decide) rfl rfl rfl rfl rfl rfl ?_
          have hW180 : Wk (uG G151 81 ((nw2_84 - 1))) A152 := Wk_g hW155 (show (-2147483648 : Int) ≤ (nw2_84 - 1) by omega) (show (nw2_84 - 1) ≤ (2147483647 : Int) by omega)
          have hF181 := Fr_g (z := (nw2_84 - 1)) (i := 81) hF167 (by decide)
          have hFAd := FA_dn (F := F) (nw := nw) sf173 fB_l; have hSAd := SA_kdn (S := Sn) sf174 p_19 (fun q => by have := hk3 q; omega); have hfw5 : A152 51 (nw).toNat = fw := ((hFAd nw (by omega) (by omega)).1).trans hfw
          refine jx_ld (pc_q := 436) (l_q := L) (st_q := [.int (i32 (0))]) rfl (jl_iloadn gL_2) ?_
          refine jx_if_eq (pc_q := 439) (tg := 444) rfl rfl rfl (by decide) (by decide) (fun h182 => ?_) (fun h182 => ?_)
          · have _q := h182
            refine jx_ld (pc_q := 445) (l_q := L) (st_q := [.ref 66]) rfl (jl_aloadn gL_0) ?_
            refine jr_get (pc_q := 448) (i := 39) (v := .ref 89) rfl rfl (by decide) rfl rfl ?_
            refine jx_ld (pc_q := 450) (l_q := L) (st_q := [.int (i32 (c)), .ref 89]) rfl (jl_iload gL_8) ?_
            have b183 : (-2147483648 : Int) ≤ T0 22 (c).toNat ∧ T0 22 (c).toNat ≤ 2147483647 := hWT.2 22 _
            refine jr_ldv (pc_q := 451) (i := 22) (m := 7000) (z := c) (y := T0 22 (c).toNat) rfl (by decide) rfl (by decide) (by omega) (by omega) rfl (show A152 22 (c).toNat = T0 22 (c).toNat from (congrFun ((hF156.2 22 rfl).trans ((hF128.2 22 rfl).trans ((hF88.2 22 rfl).trans (((congrFun eA65 22).trans (uA_ne (by decide))).trans ((hF46.2 22 rfl).trans ((hFx.2 22 rfl).trans (p_0 22 rfl))))))) _)) ?_
            refine jx_ld (pc_q := 453) (l_q := jSto1 L 8 (.int (i32 (T0 22 (c).toNat)))) (st_q := []) rfl rfl ?_
            obtain ⟨L184, eL184⟩ : ∃ q, q = jSto1 L 8 (.int (i32 (T0 22 (c).toNat))) := ⟨_, rfl⟩
            rw [← eL184]
            have gL184_0 : jGet L184 0 = some (.ref 66) := eL184 ▸ jg_ne (by decide) gL_0 rfl
            have gL184_1 : jGet L184 1 = some (.int (i32 (n))) := eL184 ▸ jg_ne (by decide) gL_1 rfl
            have gL184_2 : jGet L184 2 = some (.int (i32 (0))) := eL184 ▸ jg_ne (by decide) gL_2 rfl
            have gL184_3 : jGet L184 3 = some (.int (i32 (w))) := eL184 ▸ jg_ne (by decide) gL_3 rfl
            have gL184_4 : jGet L184 4 = some (.int (i32 (mn))) := eL184 ▸ jg_ne (by decide) gL_4 rfl
            have gL184_5 : jGet L184 5 = some (.int (i32 (le))) := eL184 ▸ jg_ne (by decide) gL_5 rfl
            have gL184_6 : jGet L184 6 = some (.int (i32 (b6))) := eL184 ▸ jg_ne (by decide) gL_6 rfl
            have gL184_9 : jGet L184 9 = some (.int (i32 (f9))) := eL184 ▸ jg_ne (by decide) gL_9 rfl
            have gL184_10 : jGet L184 10 = some (.int (i32 (i))) := eL184 ▸ jg_ne (by decide) gL_10 rfl
            have gL184_8 : jGet L184 8 = some (.int (i32 (T0 22 (c).toNat))) := eL184 ▸ jg_eq
            refine jx_inc (pc_q := 456) (l_q := jSto1 L184 10 (.int (i32 ((i + (1)))))) (x := i) rfl gL184_10 (by decide) rfl rfl ?_
            obtain ⟨L185, eL185⟩ : ∃ q, q = jSto1 L184 10 (.int (i32 ((i + (1))))) := ⟨_, rfl⟩
            rw [← eL185]
            have gL185_0 : jGet L185 0 = some (.ref 66) := eL185 ▸ jg_ne (by decide) gL184_0 rfl
            have gL185_1 : jGet L185 1 = some (.int (i32 (n))) := eL185 ▸ jg_ne (by decide) gL184_1 rfl
            have gL185_2 : jGet L185 2 = some (.int (i32 (0))) := eL185 ▸ jg_ne (by decide) gL184_2 rfl
            have gL185_3 : jGet L185 3 = some (.int (i32 (w))) := eL185 ▸ jg_ne (by decide) gL184_3 rfl
            have gL185_4 : jGet L185 4 = some (.int (i32 (mn))) := eL185 ▸ jg_ne (by decide) gL184_4 rfl
            have gL185_5 : jGet L185 5 = some (.int (i32 (le))) := eL185 ▸ jg_ne (by decide) gL184_5 rfl
            have gL185_6 : jGet L185 6 = some (.int (i32 (b6))) := eL185 ▸ jg_ne (by decide) gL184_6 rfl
            have gL185_9 : jGet L185 9 = some (.int (i32 (f9))) := eL185 ▸ jg_ne (by decide) gL184_9 rfl
            have gL185_8 : jGet L185 8 = some (.int (i32 (T0 22 (c).toNat))) := eL185 ▸ jg_ne (by decide) gL184_8 rfl
            have gL185_10 : jGet L185 10 = some (.int (i32 ((i + (1))))) := eL185 ▸ jg_eq
            refine jx_go (tg := 312) rfl rfl ?_
            exact ih312_0 _ (by omega) L185 (uG G151 81 ((nw2_84 - 1))) A152 (w) (mn) (le) (b6) (T0 22 (c).toNat) (f9) ((i + (1))) (st2_153) (lg2_154) (lb2_83) (fw) (La) rfl gL185_0 gL185_1 gL185_2 gL185_3 gL185_4 gL185_5 gL185_6 gL185_8 gL185_9 gL185_10 hW180 hF181 hC168 hAl169 hBp170 (Cd_mk (fun hC => Cd_ap hBo179 (by omega))) ((e158)) ((e159)) (((hF156.1 77 rfl).trans ((hF128.1 77 rfl).trans (e94)))) ((hfw5)) (Eq.trans (show (uG G151 81 ((nw2_84 - 1))) 81 = (nw2_84 - 1) from rfl) (by omega)) (Eq.trans (show (uG G151 81 ((nw2_84 - 1))) 89 = al2_85 from ((hF156.1 89 rfl).trans ((hF128.1 89 rfl).trans (e96)))) (by omega)) (by omega) (by omega) (by omega) (by omega) (by omega) (by omega) (by omega) (by omega) (by omega) (by omega) (by omega) (by omega) ((Cd_mk (fun hC => by have := Cd_ap iv_5 (by omega); have := Cd_ap p103 (by omega); omega))) (by omega) (by omega) (by omega) (by omega) (by omega) (by omega) (by omega) (by omega) (by omega) (by omega) (by omega) ((Cd_mk (fun hC => (by have hr := Cd_ap iv_17 (by omega); omega)))) (by omega) (hFAd) (hSAd) (sf171) (sf172) (iv_23) ((Cd_mk (fun hC => (gP2_nx (by omega) (by omega) (Cd_ap sf175 (by omega)) (by omega) (Cd_ap sf176 (by omega)).2.2.2 (gP_c iv_10 (Cd_ap sf177 (by omega))) (Cd_ap sf178 (by omega)) (Cd_ap p165 (by omega)) (by omega)))))
          · have _q := h182
            exact absurd h182 (by omega)
        · have _q := h61
          exact absurd h61 (by omega)
set_option maxRecDepth 20000 in
set_option maxHeartbeats 4000000 in
theorem c_genPar_at_312_1 {X : jX} {k : Nat} (hN : GN X k) {d : Nat} {T0 : Nat → Nat → Int} {Q F Sn : Int → Int} {Vs : Nat → Prop} {sb pb : Int} {c0 c1 : jC} {G : Nat → Int} {A : Nat → Nat → Int} {T : jH} {n : Int} {hi s0 s1 D bd : Int} {st lg lb nw al fw : Int} (hd : 2 * k + 63 ≤ d + 1) (hW : Wk G A) (e_st : G 70 = st) (e_lg : G 79 = lg) (e_lb : G 77 = lb) (e_nw : G 81 = nw) (e_al : G 89 = al) (e_fw : A 51 (nw).toNat = fw) (h_n : (-2147483648 : Int) ≤ n ∧ n ≤ 2147483647) (p_0 : TA T0 A) (p_1 : FA F (nw) A) (p_2 : SA T0 Vs Sn A) (p_3 : VW T0 Vs (nw)) (p_4 : 0 ≤ nw) (p_5 : nw + (k : Int) + 1 ≤ 38) (p_6 : 0 ≤ al) (p_7 : al + (k : Int) + 1 ≤ 38) (p_8 : 0 ≤ st) (p_9 : st ≤ 7000) (p_10 : 0 ≤ lb) (p_11 : lb + bd + 7000 - st ≤ 1900000000) (p_12 : hi ≤ 6999) (p_13 : sb ≤ 202) (p_14 : 0 ≤ n) (p_15 : n < hi) (p_16 : 0 ≤ s0) (p_17 : s1 ≤ sb) (p_18 : KD T0 sb pb k Vs (n) (hi) (s0) (s1) (nw) (D)) (p_19 : VB (Vs) (s0)) (p_20 : T0 15 (n).toNat = 28 ∨ T0 15 (n).toNat = 29) (p_21 : 0 ≤ T0 25 (n).toNat) (p_22 : T0 25 (n).toNat + 3 ≤ 4000) (p_23 : WB (n) (hi) (bd)) (p_24 : 0 ≤ D) (p_25 : D ≤ 4000) (p_26 : -4000 ≤ fw - D) (p_27 : fw ≤ 0) (p_28 : pb ≤ 24) (p_29 : PV T0 pb) (p_30 : PA Q pb A) : ∀ (m : Nat) (L : jL) (Gx : Nat → Int) (Ax : Nat → Nat → Int) (w mn le b6 c f9 i st1 lg1 lb1 fw1 : Int) (La : Int → Int), (mn - i).toNat = m → jGet L 0 = some (.ref 66) → jGet L 1 = some (.int (i32 (n))) → jGet L 2 = some (.int (i32 (1))) → jGet L 3 = some (.int (i32 w)) → jGet L 4 = some (.int (i32 mn)) → jGet L 5 = some (.int (i32 le)) → jGet L 6 = some (.int (i32 b6)) → jGet L 8 = some (.int (i32 c)) → jGet L 9 = some (.int (i32 f9)) → jGet L 10 = some (.int (i32 i)) → Wk Gx Ax → Fr [70, 77, 79, 81, 89] [13, 44, 45, 46, 47, 50, 51, 56, 57, 58] G A Gx Ax → Fx [44, 45, 46, 47] (st) A Ax → Fx [58] (8 * al) A Ax → Fx [56, 57] (8 * nw) A Ax → Cd (lg1 = 0 ∧ lb1 < 19999) (Fx [50] (lb + 1) A Ax) → Gx 70 = st1 → Gx 79 = lg1 → Gx 77 = lb1 → Ax 51 (nw).toNat = fw1 → Gx 81 = nw → Gx 89 = al → ((-2147483648 : Int) ≤ w ∧ w ≤ 2147483647) → ((-2147483648 : Int) ≤ mn ∧ mn ≤ 2147483647) → ((-2147483648 : Int) ≤ le ∧ le ≤ 2147483647) → ((-2147483648 : Int) ≤ b6 ∧ b6 ≤ 2147483647) → ((-2147483648 : Int) ≤ c ∧ c ≤ 2147483647) → ((-2147483648 : Int) ≤ f9 ∧ f9 ≤ 2147483647) → ((-2147483648 : Int) ≤ i ∧ i ≤ 2147483647) → (st ≤ st1) → (st1 ≤ 7000) → (lg ≤ lg1) → (lg1 ≤ 1) → (lb + 2 ≤ lb1) → (Cd (lg1 = 0) (lb1 - lb ≤ st1 - st)) → (lb1 - lb ≤ st1 - st + bd - 100000) → (w = T0 25 (n).toNat) → (mn = T0 20 (n).toNat) → (b6 = 8 * nw) → (c = kid T0 n (i).toNat) → (f9 = fw) → (0 ≤ i) → (i ≤ mn) → (fw1 = fw) → (1 ≤ le) → (le ≤ 19999) → (Cd (lb1 < 20000) (le = lb + 1)) → (T0 15 (n).toNat = 29) → (FA F (nw) Ax) → (SA T0 Vs Sn Ax) → (PE 56 (La) (b6) (mn) Ax) → (PE 57 (fL T0 F nw n) (b6) (mn) Ax) → (LBd (La) (mn)) → (Cd (lg1 = 0 ∧ lb1 < 19999) (gP2 T0 Ax Q k (La) F Sn nw (n) ((i).toNat) (le) (st) (st1) (lb + 1) (lb1))) → wj X d jm358 (312, L, [], rV c0 c1 Gx Ax T) (fun o V_q => ∃ (G_q : Nat → Int) (A_q : Nat → Nat → Int) (st2 : Int) (lg2 : Int) (lb2 : Int) (nw2 : Int) (al2 : Int) (fw2 : Int), V_q = rV c0 c1 G_q A_q T ∧ o = .inl none ∧ Wk G_q A_q ∧ Fr [70, 77, 79, 81, 89] [13, 44, 45, 46, 47, 50, 51, 56, 57, 58] G A G_q A_q ∧ Fx [44, 45, 46, 47] (st) A A_q ∧ Fx [58] (8 * al) A A_q ∧ Fx [56, 57] (8 * nw) A A_q ∧ G_q 70 = st2 ∧ G_q 79 = lg2 ∧ G_q 77 = lb2 ∧ G_q 81 = nw2 ∧ G_q 89 = al2 ∧ A_q 51 (nw).toNat = fw2 ∧ (st ≤ st2) ∧ (st2 ≤ 7000) ∧ (lg ≤ lg2) ∧ (lg2 ≤ 1) ∧ (lb ≤ lb2) ∧ (Cd (lg2 = 0) (lb2 - lb ≤ st2 - st)) ∧ (lb2 - lb ≤ st2 - st + bd) ∧ (Cd (lg2 = 0 ∧ lb2 < 19999) (Fx [50] (lb + 1) A A_q)) ∧ (nw2 = nw) ∧ (al2 = al) ∧ (fw2 = fw) ∧ (FA F (nw) A_q) ∧ (SA T0 Vs Sn A_q) ∧ (Cd (lg2 = 0 ∧ lb2 < 19999) (gPa T0 A_q (gP T0 A_q Q k) F Sn nw (n) (st) (st2) (lb) (lb2))) ∧ True) := by
  have hF0 : Fr [70, 77, 79, 81, 89] [13, 44, 45, 46, 47, 50, 51, 56, 57, 58] G A G A := Fr_rf
  have hC0 : Fx [44, 45, 46, 47] (st) A A := Fx_rf
  have hAl0 : Fx [58] (8 * al) A A := Fx_rf
  have hBp0 : Fx [56, 57] (8 * nw) A A := Fx_rf
  have b_st : (-2147483648 : Int) ≤ st ∧ st ≤ 2147483647 := e_st ▸ hW.1 70
  have b_lg : (0 : Int) ≤ lg ∧ lg ≤ 1 := e_lg ▸ hW.1 79
  have b_lb : (-2147483648 : Int) ≤ lb ∧ lb ≤ 2147483647 := e_lb ▸ hW.1 77
  have b_nw : (-2147483648 : Int) ≤ nw ∧ nw ≤ 2147483647 := e_nw ▸ hW.1 81
  have b_al : (-2147483648 : Int) ≤ al ∧ al ≤ 2147483647 := e_al ▸ hW.1 89
  have b_fw : (-2147483648 : Int) ≤ fw ∧ fw ≤ 2147483647 := e_fw ▸ hW.2 51 _
  have hWT := TA_w hW p_0
  have hBo0 : Cd (lg = 0 ∧ lb < 19999) (Fx [50] (lb + 1) A A) := Cd_mk (fun _ => Fx_rf)
  have hfw := FA_at p_1 p_4 e_fw
  have hKD := p_18; obtain ⟨hk1, hk2, hk3, hk4⟩ := hKD
  have hbp := WB_p p_23 (by omega) (by omega) (by omega)
  intro m
  induction m using Nat.strongRecOn with
  | ind m ih312_1 =>
    intro L Gx Ax w mn le b6 c f9 i st1 lg1 lb1 fw1 La hm gL_0 gL_1 gL_2 gL_3 gL_4 gL_5 gL_6 gL_8 gL_9 gL_10 hWx hFx hCx hAlx hBpx hBox ex_st1 ex_lg1 ex_lb1 ex_fw1 fx_81 fx_89 rx_w rx_mn rx_le rx_b6 rx_c rx_f9 rx_i iv_0 iv_1 iv_2 iv_3 iv_4 iv_5 iv_6 iv_7 iv_8 iv_9 iv_10 iv_11 iv_12 iv_13 iv_14 iv_15 iv_16 iv_17 iv_18 iv_19 iv_20 iv_21 iv_22 iv_23 iv_24
    have b_st1 : (-2147483648 : Int) ≤ st1 ∧ st1 ≤ 2147483647 := ex_st1 ▸ hWx.1 70
    have b_lg1 : (0 : Int) ≤ lg1 ∧ lg1 ≤ 1 := ex_lg1 ▸ hWx.1 79
    have b_lb1 : (-2147483648 : Int) ≤ lb1 ∧ lb1 ≤ 2147483647 := ex_lb1 ▸ hWx.1 77
    have hmy : mny T0 n = T0 20 (n).toNat := if_pos (by omega)
    refine jx_ld (pc_q := 314) (l_q := L) (st_q := [.int (i32 (i))]) rfl (jl_iload gL_10) ?_
    refine jx_ld (pc_q := 316) (l_q := L) (st_q := [.int (i32 (mn)), .int (i32 (i))]) rfl (jl_iload gL_4) ?_
    refine jx_icmp_ge (pc_q := 319) (tg := 459) rfl rfl rfl (Int.le_trans (by decide : (-2147483648 : Int) ≤ -2147483648) rx_i.1) (Int.le_trans rx_i.2 (by decide : (2147483647 : Int) ≤ 2147483647)) (Int.le_trans (by decide : (-2147483648 : Int) ≤ -2147483648) rx_mn.1) (Int.le_trans rx_mn.2 (by decide : (2147483647 : Int) ≤ 2147483647)) (fun h186 => ?_) (fun h186 => ?_)
    · have _q := h186
      refine jx_ld (pc_q := 460) (l_q := L) (st_q := [.ref 66]) rfl (jl_aloadn gL_0) ?_
      refine jx_ld (pc_q := 462) (l_q := L) (st_q := [.int (i32 (le)), .ref 66]) rfl (jl_iload gL_5) ?_
      refine jx_vr (pc_q := 465) (as := [.int (i32 (le))]) (st := []) rfl rfl rfl rfl ⟨rfl, rfl, Nat.le_of_ble_eq_true rfl⟩ rfl rfl (c_set (dd := d) (hd := by omega) (hW := hWx) (l := le) (st := st1) (e_st := show Gx 70 = st1 from (ex_st1))  (h_l := ⟨(Int.le_trans (by decide : (-2147483648 : Int) ≤ -2147483648) rx_le.1), (Int.le_trans rx_le.2 (by decide : (2147483647 : Int) ≤ 2147483647))⟩)  (p_0 := by omega) (p_1 := by omega)) (fun o V_q hq => ?_)
      obtain ⟨G187, A188, ls2_189, rfl, rfl, hW190, hF191, e192, p193, q194⟩ := hq
      have hF195 := Fr_tr hFx hF191 (Fr_sub (by decide)) (Fr_sub (by decide))
      have hC196 := Fx_f hCx hF191 (by decide)
      have hAl197 := Fx_f hAlx hF191 (by decide)
      have hBp198 := Fx_f hBpx hF191 (by decide)
      have bls2_189 : (-2147483648 : Int) ≤ ls2_189 ∧ ls2_189 ≤ 2147483647 := e192 ▸ hW190.2 50 _
      refine .inl ⟨rfl, ?_⟩
      have a199 := q194
      have sf200 := FA_fr ((congrFun a199 51).trans (uA_ne (by decide))) iv_19
      have sf201 := SA_fr ((congrFun a199 13).trans (uA_ne (by decide))) iv_20
      have sf202 : PE 56 (La) (b6) (mn) A188 := PE_fr ((congrFun a199 56).trans (uA_ne (by decide))) iv_21
      have sf203 : PE 57 (fL T0 F nw n) (b6) (mn) A188 := PE_fr ((congrFun a199 57).trans (uA_ne (by decide))) iv_22
      have sf204 : Cd (lg1 = 0 ∧ lb1 < 19999) (gP2 T0 A188 Q k (La) F Sn nw (n) ((i).toNat) (le) (st) (st1) (lb + 1) (lb1)) := Cd_mk (fun hC => gP2_mv (Cg_set (K := st1) a199 (by omega) (by have hr := Cd_ap iv_17 (by omega); omega)) (Int.le_refl _) (Cd_ap iv_24 (by omega)))
      have hBo205 : Cd (lg1 = 0 ∧ lb1 < 19999) (Fx [50] (lb + 1) A A188) := Cd_mk (fun hC => Fx_u a199 (Cd_ap hBox (by omega)) (by omega) (by have hr := Cd_ap iv_17 (by omega); omega))
      refine jx_rt (v := none) rfl rfl rfl rfl rfl rfl ?_
      exact ⟨_, _, st1, lg1, lb1, nw, al, fw1, rfl, rfl, hW190, hF195, hC196, hAl197, hBp198, ((hF191.1 70 rfl).trans (ex_st1)), ((hF191.1 79 rfl).trans (ex_lg1)), ((hF191.1 77 rfl).trans (ex_lb1)), ((hF191.1 81 rfl).trans (fx_81)), ((hF191.1 89 rfl).trans (fx_89)), (congrFun (hF191.2 51 rfl) _).trans (ex_fw1), by omega, by omega, by omega, by omega, by omega, (Cd_mk (fun hC => by have := Cd_ap iv_5 (by omega); omega)), by omega, (Cd_mk (fun hC => Cd_ap hBo205 (by omega))), by omega, by omega, by omega, sf200, sf201, (Cd_mk (fun hC => (gPa_mk (m1 := lb + 1) (by omega) (Cd_ap sf204 (by omega)) (by omega) (LZ_mk (l0 := lb) (l1 := lb + 1) (by omega) (by have hr := Cd_ap iv_17 (by omega); omega) (by have hr := Cd_ap iv_17 (by omega); omega) ((show A188 50 (le).toNat = ls2_189 from (e192)).trans (by omega)))))), trivial⟩
    · have _q := h186
      have _q : True := trivial
      refine jx_ld (pc_q := 320) (l_q := L) (st_q := [.ref 66]) rfl (jl_aloadn gL_0) ?_
      refine jr_get (pc_q := 323) (i := 79) (v := .int (i32 (lg1))) rfl rfl (by decide) (rFv_eq (by decide) (show Gx 79 = lg1 from (ex_lg1))) rfl ?_
      refine jx_if_ne (pc_q := 326) (tg := 459) rfl rfl rfl (Int.le_trans (by decide : (-2147483648 : Int) ≤ 0) b_lg1.1) (Int.le_trans b_lg1.2 (by decide : (1 : Int) ≤ 2147483647)) (fun h206 => ?_) (fun h206 => ?_)
      · have _q := h206
        refine jx_ld (pc_q := 460) (l_q := L) (st_q := [.ref 66]) rfl (jl_aloadn gL_0) ?_
        refine jx_ld (pc_q := 462) (l_q := L) (st_q := [.int (i32 (le)), .ref 66]) rfl (jl_iload gL_5) ?_
        refine jx_vr (pc_q := 465) (as := [.int (i32 (le))]) (st := []) rfl rfl rfl rfl ⟨rfl, rfl, Nat.le_of_ble_eq_true rfl⟩ rfl rfl (c_set (dd := d) (hd := by omega) (hW := hWx) (l := le) (st := st1) (e_st := show Gx 70 = st1 from (ex_st1))  (h_l := ⟨(Int.le_trans (by decide : (-2147483648 : Int) ≤ -2147483648) rx_le.1), (Int.le_trans rx_le.2 (by decide : (2147483647 : Int) ≤ 2147483647))⟩)  (p_0 := by omega) (p_1 := by omega)) (fun o V_q hq => ?_)
        obtain ⟨G207, A208, ls2_209, rfl, rfl, hW210, hF211, e212, p213, q214⟩ := hq
        have hF215 := Fr_tr hFx hF211 (Fr_sub (by decide)) (Fr_sub (by decide))
        have hC216 := Fx_f hCx hF211 (by decide)
        have hAl217 := Fx_f hAlx hF211 (by decide)
        have hBp218 := Fx_f hBpx hF211 (by decide)
        have bls2_209 : (-2147483648 : Int) ≤ ls2_209 ∧ ls2_209 ≤ 2147483647 := e212 ▸ hW210.2 50 _
        refine .inl ⟨rfl, ?_⟩
        have a219 := q214
        have sf220 := FA_fr ((congrFun a219 51).trans (uA_ne (by decide))) iv_19
        have sf221 := SA_fr ((congrFun a219 13).trans (uA_ne (by decide))) iv_20
        have sf222 : PE 56 (La) (b6) (mn) A208 := PE_fr ((congrFun a219 56).trans (uA_ne (by decide))) iv_21
        have sf223 : PE 57 (fL T0 F nw n) (b6) (mn) A208 := PE_fr ((congrFun a219 57).trans (uA_ne (by decide))) iv_22
        have sf224 : Cd (lg1 = 0 ∧ lb1 < 19999) (gP2 T0 A208 Q k (La) F Sn nw (n) ((i).toNat) (le) (st) (st1) (lb + 1) (lb1)) := Cd_mk (fun hC => gP2_mv (Cg_set (K := st1) a219 (by omega) (by have hr := Cd_ap iv_17 (by omega); omega)) (Int.le_refl _) (Cd_ap iv_24 (by omega)))
        have hBo225 : Cd (lg1 = 0 ∧ lb1 < 19999) (Fx [50] (lb + 1) A A208) := Cd_mk (fun hC => Fx_u a219 (Cd_ap hBox (by omega)) (by omega) (by have hr := Cd_ap iv_17 (by omega); omega))
        refine jx_rt (v := none) rfl rfl rfl rfl rfl rfl ?_
        exact ⟨_, _, st1, lg1, lb1, nw, al, fw1, rfl, rfl, hW210, hF215, hC216, hAl217, hBp218, ((hF211.1 70 rfl).trans (ex_st1)), ((hF211.1 79 rfl).trans (ex_lg1)), ((hF211.1 77 rfl).trans (ex_lb1)), ((hF211.1 81 rfl).trans (fx_81)), ((hF211.1 89 rfl).trans (fx_89)), (congrFun (hF211.2 51 rfl) _).trans (ex_fw1), by omega, by omega, by omega, by omega, by omega, (Cd_mk (fun hC => by have := Cd_ap iv_5 (by omega); omega)), by omega, (Cd_mk (fun hC => Cd_ap hBo225 (by omega))), by omega, by omega, by omega, sf220, sf221, (Cd_mk (fun hC => (absurd hC.1 (by omega)))), trivial⟩
      · have _q := h206
        obtain ⟨hj1, ⟨a8, b8, u8, v8, ha8, hb8, hu8, hu9, hv8, hw8⟩, hj3, hj4, hj5, hj6, hj7⟩ := hk4 (i).toNat (by omega); have hin8 := wP_in hw8; have hk26 : T0 26 (c).toNat = T0 26 (kid T0 n (i).toNat).toNat := (by rw [iv_10]); have hk27 : T0 27 (c).toNat = T0 27 (kid T0 n (i).toNat).toNat := (by rw [iv_10]); have hk22 : T0 22 (c).toNat = T0 22 (kid T0 n (i).toNat).toNat := (by rw [iv_10]); have hla : Ax 56 (b6 + i).toNat = La i := iv_21 i (by omega) (by omega); have hlb := iv_23 i (by omega) (by omega); have hfl : Ax 57 (b6 + i).toNat = F nw - dpt T0 n (i).toNat - T0 26 (kid T0 n (i).toNat).toNat := iv_22 i (by omega) (by omega); have hks := (kid_29 (j := (i + 1).toNat) iv_18).trans (kid_29 (j := (i).toNat) iv_18).symm; have hf1 := Cd_ap iv_5 (by omega)
        refine jx_ld (pc_q := 327) (l_q := L) (st_q := [.ref 66]) rfl (jl_aloadn gL_0) ?_
        refine jx_ld (pc_q := 328) (l_q := L) (st_q := [.ref 66, .ref 66]) rfl (jl_aloadn gL_0) ?_
        refine jr_get (pc_q := 331) (i := 86) (v := .ref 123) rfl rfl (by decide) rfl rfl ?_
        refine jx_ld (pc_q := 333) (l_q := L) (st_q := [.int (i32 (b6)), .ref 123, .ref 66]) rfl (jl_iload gL_6) ?_
        refine jx_ld (pc_q := 335) (l_q := L) (st_q := [.int (i32 (i)), .int (i32 (b6)), .ref 123, .ref 66]) rfl (jl_iload gL_10) ?_
        refine jx_add (pc_q := 336) rfl rfl ?_
        have b226 : (-2147483648 : Int) ≤ Ax 56 ((b6 + i)).toNat ∧ Ax 56 ((b6 + i)).toNat ≤ 2147483647 := hWx.2 56 _
        refine jr_ldv (pc_q := 337) (i := 56) (m := 320) (z := (b6 + i)) (y := Ax 56 ((b6 + i)).toNat) rfl (by decide) rfl (by decide) (by omega) (by omega) rfl (show Ax 56 ((b6 + i)).toNat = Ax 56 ((b6 + i)).toNat from rfl) ?_
        refine jx_vr (pc_q := 340) (as := [.int (i32 (Ax 56 ((b6 + i)).toNat))]) (st := []) rfl rfl rfl rfl ⟨rfl, rfl, Nat.le_of_ble_eq_true rfl⟩ rfl rfl (c_set (dd := d) (hd := by omega) (hW := hWx) (l := Ax 56 ((b6 + i)).toNat) (st := st1) (e_st := show Gx 70 = st1 from (ex_st1))  (h_l := ⟨(Int.le_trans (by decide : (-2147483648 : Int) ≤ -2147483648) b226.1), (Int.le_trans b226.2 (by decide : (2147483647 : Int) ≤ 2147483647))⟩)  (p_0 := by omega) (p_1 := by omega)) (fun o V_q hq => ?_)
        obtain ⟨G227, A228, ls2_229, rfl, rfl, hW230, hF231, e232, p233, q234⟩ := hq
        have hF235 := Fr_tr hFx hF231 (Fr_sub (by decide)) (Fr_sub (by decide))
        have hC236 := Fx_f hCx hF231 (by decide)
        have hAl237 := Fx_f hAlx hF231 (by decide)
        have hBp238 := Fx_f hBpx hF231 (by decide)
        have bls2_229 : (-2147483648 : Int) ≤ ls2_229 ∧ ls2_229 ≤ 2147483647 := e232 ▸ hW230.2 50 _
        refine .inl ⟨rfl, ?_⟩
        have a239 := q234
        have sf240 := FA_fr ((congrFun a239 51).trans (uA_ne (by decide))) iv_19
        have sf241 := SA_fr ((congrFun a239 13).trans (uA_ne (by decide))) iv_20
        have sf242 : PE 56 (La) (b6) (mn) A228 := PE_fr ((congrFun a239 56).trans (uA_ne (by decide))) iv_21
        have sf243 : PE 57 (fL T0 F nw n) (b6) (mn) A228 := PE_fr ((congrFun a239 57).trans (uA_ne (by decide))) iv_22
        have sf244 : Cd (lg1 = 0 ∧ lb1 < 19999) (gP2 T0 A228 Q k (La) F Sn nw (n) ((i).toNat) (le) (st) (st1) (lb + 1) (lb1)) := Cd_mk (fun hC => gP2_set a239 hla (by omega) (by omega) (Cd_ap iv_24 (by omega)))
        have hBo245 : Cd (lg1 = 0 ∧ lb1 < 19999) (Fx [50] (lb + 1) A A228) := Cd_mk (fun hC => Fx_u a239 (Cd_ap hBox (by omega)) (by omega) (by have q := gP2_La (i := i) (Cd_ap sf244 (by omega)) (by omega) (by omega); omega))
        have hlsi : Cd (lg1 = 0 ∧ lb1 < 19999) (LZ A228 (La i) (st1) (lb + 1) (lb1)) := Cd_mk (fun hC => LZ_mk2 hla (by omega) (gP2_La (Cd_ap sf244 (by omega)) (by omega) (by omega)) ((show A228 50 (Ax 56 ((b6 + i)).toNat).toNat = ls2_229 from (e232)).trans (by omega)))
        refine jx_ld (pc_q := 341) (l_q := L) (st_q := [.int (i32 (1))]) rfl (jl_iloadn gL_2) ?_
        refine jx_if_eq (pc_q := 344) (tg := 364) rfl rfl rfl (by decide) (by decide) (fun h246 => ?_) (fun h246 => ?_)
        · have _q := h246
          exact absurd h246 (by omega)
        · have _q := h246
          refine jx_ld (pc_q := 345) (l_q := L) (st_q := [.ref 66]) rfl (jl_aloadn gL_0) ?_
          refine jr_get (pc_q := 348) (i := 27) (v := .ref 80) rfl rfl (by decide) rfl rfl ?_
          refine jx_ld (pc_q := 349) (l_q := L) (st_q := [.ref 66, .ref 80]) rfl (jl_aloadn gL_0) ?_
          refine jr_get (pc_q := 352) (i := 34) (v := .ref 84) rfl rfl (by decide) rfl rfl ?_
          refine jx_ld (pc_q := 353) (l_q := L) (st_q := [.int (i32 (n)), .ref 84, .ref 80]) rfl (jl_iloadn gL_1) ?_
          have b247 : (-2147483648 : Int) ≤ T0 17 (n).toNat ∧ T0 17 (n).toNat ≤ 2147483647 := hWT.2 17 _
          refine jr_ldv (pc_q := 354) (i := 17) (m := 7000) (z := n) (y := T0 17 (n).toNat) rfl (by decide) rfl (by decide) (by omega) (by omega) rfl (show A228 17 (n).toNat = T0 17 (n).toNat from (congrFun ((hF231.2 17 rfl).trans ((hFx.2 17 rfl).trans (p_0 17 rfl))) _)) ?_
          refine jx_ld (pc_q := 355) (l_q := L) (st_q := [.ref 66, .int (i32 (T0 17 (n).toNat)), .ref 80]) rfl (jl_aloadn gL_0) ?_
          refine jr_get (pc_q := 358) (i := 36) (v := .ref 86) rfl rfl (by decide) rfl rfl ?_
          refine jx_ld (pc_q := 359) (l_q := L) (st_q := [.int (i32 (n)), .ref 86, .int (i32 (T0 17 (n).toNat)), .ref 80]) rfl (jl_iloadn gL_1) ?_
          have b248 : (-2147483648 : Int) ≤ T0 19 (n).toNat ∧ T0 19 (n).toNat ≤ 2147483647 := hWT.2 19 _
          refine jr_ldv (pc_q := 360) (i := 19) (m := 7000) (z := n) (y := T0 19 (n).toNat) rfl (by decide) rfl (by decide) (by omega) (by omega) rfl (show A228 19 (n).toNat = T0 19 (n).toNat from (congrFun ((hF231.2 19 rfl).trans ((hFx.2 19 rfl).trans (p_0 19 rfl))) _)) ?_
          refine jx_ld (pc_q := 362) (l_q := L) (st_q := [.int (i32 (i)), .int (i32 (T0 19 (n).toNat)), .int (i32 (T0 17 (n).toNat)), .ref 80]) rfl (jl_iload gL_10) ?_
          refine jx_add (pc_q := 363) rfl rfl ?_
          obtain ⟨v9, ev9⟩ : ∃ z, z = (i32 (T0 19 (n).toNat + i)).toInt := ⟨_, rfl⟩; have ev8 : i32 (T0 19 (n).toNat + i) = i32 v9 := (by rw [ev9]; exact (i32_of _).symm); rw [ev8]; have rv9 : (-2147483648 : Int) ≤ v9 ∧ v9 ≤ 2147483647 := ev9 ▸ i32_rg _
          refine jr_st (pc_q := 364) (i := 13) (m := 260) (z := T0 17 (n).toNat) (y := v9) rfl (by decide) rfl (by decide) (by omega) (by omega) rfl ?_
          have hW250 : Wk G227 (uA A228 13 (T0 17 (n).toNat).toNat (v9)) := Wk_a hW230 (show (-2147483648 : Int) ≤ v9 by omega) (show v9 ≤ (2147483647 : Int) by omega)
          have hF251 := Fr_a (z := v9) (k := 13) (n := (T0 17 (n).toNat).toNat) hF235 (by decide)
          obtain ⟨A249, eA249⟩ : ∃ q, q = uA A228 13 (T0 17 (n).toNat).toNat (v9) := ⟨_, rfl⟩
          rw [← eA249]
          rw [← eA249] at hW250 hF251
          have q252 : A249 13 (T0 17 (n).toNat).toNat = v9 := by rw [eA249]; exact uA_eq
          have hC253 : Fx [44, 45, 46, 47] (st) A A249 := eA249 ▸ Fx_n hC236 rfl
          have hAl254 : Fx [58] (8 * al) A A249 := eA249 ▸ Fx_n hAl237 rfl
          have hBp255 : Fx [56, 57] (8 * nw) A A249 := eA249 ▸ Fx_n hBp238 rfl
          have sf256 := FA_fr ((congrFun eA249 51).trans (uA_ne (by decide))) sf240
          have sf257 : PE 56 (La) (b6) (mn) A249 := PE_fr ((congrFun eA249 56).trans (uA_ne (by decide))) sf242
          have sf258 : PE 57 (fL T0 F nw n) (b6) (mn) A249 := PE_fr ((congrFun eA249 57).trans (uA_ne (by decide))) sf243
          have sf259 : Cd (lg1 = 0 ∧ lb1 < 19999) (gP2 T0 A249 Q k (La) F Sn nw (n) ((i).toNat) (le) (st) (st1) (lb + 1) (lb1)) := Cd_mk (fun hC => gP2_mv (Cg_ne (K := st1) eA249 rfl) (Int.le_refl _) (Cd_ap sf244 (by omega)))
          have sf260 : Cd (lg1 = 0 ∧ lb1 < 19999) (LZ A249 (La i) (st1) (lb + 1) (lb1)) := Cd_mk (fun hC => LZ_mv (Cg_ne (K := st1) eA249 rfl) (Int.le_refl _) (Cd_ap hlsi (by omega)))
          have hBo261 : Cd (lg1 = 0 ∧ lb1 < 19999) (Fx [50] (lb + 1) A A249) := Cd_mk (fun hC => Fx_un eA249 (Cd_ap hBo245 (by omega)) rfl)
          have hSAk := SA_k29 (i := i) eA249 iv_18 rfl (by have := hk3 iv_18; omega) (by omega) ev9 sf241
          refine jx_ld (pc_q := 365) (l_q := L) (st_q := [.ref 66]) rfl (jl_aloadn gL_0) ?_
          refine jx_ar (pc_q := 366) (st_q := [.ref 66, .ref 66]) rfl rfl rfl rfl ?_
          refine jr_get (pc_q := 369) (i := 81) (v := .int (i32 (nw))) rfl rfl (by decide) (rFv_eq (by decide) (show G227 81 = nw from ((hF231.1 81 rfl).trans (fx_81)))) rfl ?_
          refine jx_ar (pc_q := 370) (st_q := [.int (i32 (1)), .int (i32 (nw)), .ref 66]) rfl rfl rfl rfl ?_
          refine jx_add (pc_q := 371) rfl rfl ?_
          refine jr_put (pc_q := 374) (i := 81) (z := (nw + 1)) rfl rfl (by decide) rfl rfl rfl rfl rfl rfl ?_
          have hW262 : Wk (uG G227 81 ((nw + 1))) A249 := Wk_g hW250 (show (-2147483648 : Int) ≤ (nw + 1) by omega) (show (nw + 1) ≤ (2147483647 : Int) by omega)
          have hF263 := Fr_g (z := (nw + 1)) (i := 81) hF251 (by decide)
          refine jx_ld (pc_q := 375) (l_q := L) (st_q := [.ref 66]) rfl (jl_aloadn gL_0) ?_
          refine jr_get (pc_q := 378) (i := 80) (v := .ref 118) rfl rfl (by decide) rfl rfl ?_
          refine jx_ld (pc_q := 379) (l_q := L) (st_q := [.ref 66, .ref 118]) rfl (jl_aloadn gL_0) ?_
          refine jr_get (pc_q := 382) (i := 81) (v := .int (i32 ((nw + 1)))) rfl rfl (by decide) rfl rfl ?_
          refine jx_ld (pc_q := 383) (l_q := L) (st_q := [.ref 66, .int (i32 ((nw + 1))), .ref 118]) rfl (jl_aloadn gL_0) ?_
          refine jr_get (pc_q := 386) (i := 87) (v := .ref 124) rfl rfl (by decide) rfl rfl ?_
          refine jx_ld (pc_q := 388) (l_q := L) (st_q := [.int (i32 (b6)), .ref 124, .int (i32 ((nw + 1))), .ref 118]) rfl (jl_iload gL_6) ?_
          refine jx_ld (pc_q := 390) (l_q := L) (st_q := [.int (i32 (i)), .int (i32 (b6)), .ref 124, .int (i32 ((nw + 1))), .ref 118]) rfl (jl_iload gL_10) ?_
          refine jx_add (pc_q := 391) rfl rfl ?_
          have _q : True := trivial
          have b264 : (-2147483648 : Int) ≤ Ax 57 ((b6 + i)).toNat ∧ Ax 57 ((b6 + i)).toNat ≤ 2147483647 := hWx.2 57 _
          refine jr_ldv (pc_q := 392) (i := 57) (m := 320) (z := (b6 + i)) (y := Ax 57 ((b6 + i)).toNat) rfl (by decide) rfl (by decide) (by omega) (by omega) rfl (show A249 57 ((b6 + i)).toNat = Ax 57 ((b6 + i)).toNat from (congrFun (((congrFun eA249 57).trans (uA_ne (by decide))).trans (hF231.2 57 rfl)) _)) ?_
          have _q : True := trivial
          refine jr_st (pc_q := 393) (i := 51) (m := 40) (z := (nw + 1)) (y := Ax 57 ((b6 + i)).toNat) rfl (by decide) rfl (by decide) (by omega) (by omega) rfl ?_
          have hW266 : Wk (uG G227 81 ((nw + 1))) (uA A249 51 ((nw + 1)).toNat (Ax 57 ((b6 + i)).toNat)) := Wk_a hW262 (show (-2147483648 : Int) ≤ Ax 57 ((b6 + i)).toNat by omega) (show Ax 57 ((b6 + i)).toNat ≤ (2147483647 : Int) by omega)
          have hF267 := Fr_a (z := Ax 57 ((b6 + i)).toNat) (k := 51) (n := ((nw + 1)).toNat) hF263 (by decide)
          obtain ⟨A265, eA265⟩ : ∃ q, q = uA A249 51 ((nw + 1)).toNat (Ax 57 ((b6 + i)).toNat) := ⟨_, rfl⟩
          rw [← eA265]
          rw [← eA265] at hW266 hF267
          have q268 : A265 51 ((nw + 1)).toNat = Ax 57 ((b6 + i)).toNat := by rw [eA265]; exact uA_eq
          have hC269 : Fx [44, 45, 46, 47] (st) A A265 := eA265 ▸ Fx_n hC253 rfl
          have hAl270 : Fx [58] (8 * al) A A265 := eA265 ▸ Fx_n hAl254 rfl
          have hBp271 : Fx [56, 57] (8 * nw) A A265 := eA265 ▸ Fx_n hBp255 rfl
          have sf272 : PE 56 (La) (b6) (mn) A265 := PE_fr ((congrFun eA265 56).trans (uA_ne (by decide))) sf257
          have sf273 : PE 57 (fL T0 F nw n) (b6) (mn) A265 := PE_fr ((congrFun eA265 57).trans (uA_ne (by decide))) sf258
          have sf274 : Cd (lg1 = 0 ∧ lb1 < 19999) (gP2 T0 A265 Q k (La) F Sn nw (n) ((i).toNat) (le) (st) (st1) (lb + 1) (lb1)) := Cd_mk (fun hC => gP2_mv (Cg_ne (K := st1) eA265 rfl) (Int.le_refl _) (Cd_ap sf259 (by omega)))
          have sf275 : Cd (lg1 = 0 ∧ lb1 < 19999) (LZ A265 (La i) (st1) (lb + 1) (lb1)) := Cd_mk (fun hC => LZ_mv (Cg_ne (K := st1) eA265 rfl) (Int.le_refl _) (Cd_ap sf260 (by omega)))
          have sf276 := SA_fr ((congrFun eA265 13).trans (uA_ne (by decide))) hSAk
          have hBo277 : Cd (lg1 = 0 ∧ lb1 < 19999) (Fx [50] (lb + 1) A A265) := Cd_mk (fun hC => Fx_un eA265 (Cd_ap hBo261 (by omega)) rfl)
          obtain ⟨b1, hb1⟩ : ∃ b, WB a8 b8 b := WB_ex _ _; have hbb := WB_in p_23 hb1 (by omega) (by omega) (by omega); have hFAk := FA_st (F := F) (F_q := fB T0 F nw n (i).toNat) eA265 sf256 p_4 (by omega) fB_l (fB_n.trans (by omega)) (by omega) (by omega); have hVWk := VW_kd (n := n) p_3 (fun q => by rw [(hk3 q).1]; exact (hk3 q).2.2.2); have hVBk := VB_kd (T := T0) (n := n) (u := u8) p_19 (by omega) (fun q => ⟨(hk3 q).1, hu9 q⟩)
          refine jx_ld (pc_q := 394) (l_q := L) (st_q := [.ref 66]) rfl (jl_aloadn gL_0) ?_
          refine jx_ld (pc_q := 396) (l_q := L) (st_q := [.int (i32 (c)), .ref 66]) rfl (jl_iload gL_8) ?_
          refine jx_vr (pc_q := 399) (as := [.int (i32 (c))]) (st := []) rfl rfl rfl rfl ⟨rfl, rfl, Nat.le_of_ble_eq_true rfl⟩ rfl rfl (hN (dd := d) (hd := by omega) (hW := hW266) (p := c) (lo := a8) (hi := b8) (s0 := u8) (s1 := v8) (fr := 1) (z := T0 26 (c).toNat) (D := T0 27 (c).toNat) (bd := b1) (st := st1) (e_st := show (uG G227 81 ((nw + 1))) 70 = st1 from ((hF231.1 70 rfl).trans (ex_st1))) (lg := lg1) (e_lg := show (uG G227 81 ((nw + 1))) 79 = lg1 from ((hF231.1 79 rfl).trans (ex_lg1))) (lb := lb1) (e_lb := show (uG G227 81 ((nw + 1))) 77 = lb1 from ((hF231.1 77 rfl).trans (ex_lb1))) (nw := (nw + 1)) (e_nw := show (uG G227 81 ((nw + 1))) 81 = (nw + 1) from rfl) (al := al) (e_al := show (uG G227 81 ((nw + 1))) 89 = al from ((hF231.1 89 rfl).trans (fx_89))) (fw := Ax 57 ((b6 + i)).toNat) (e_fw := show A265 51 ((nw + 1)).toNat = Ax 57 ((b6 + i)).toNat from (q268))  (h_p := ⟨(Int.le_trans (by decide : (-2147483648 : Int) ≤ -2147483648) rx_c.1), (Int.le_trans rx_c.2 (by decide : (2147483647 : Int) ≤ 2147483647))⟩)  (p_0 := (TA_fr hF267 (by decide) p_0)) (p_1 := hFAk) (p_2 := sf276) (p_3 := hVWk) (p_4 := by omega) (p_5 := by omega) (p_6 := by omega) (p_7 := by omega) (p_8 := by omega) (p_9 := by omega) (p_10 := by omega) (p_11 := by omega) (p_12 := by omega) (p_13 := by omega) (p_14 := by omega) (p_15 := by omega) (p_16 := by omega) (p_17 := (wP_c iv_10 hw8)) (p_18 := (VB_mo hVBk (by omega))) (p_19 := (lP_c iv_10 hj3)) (p_20 := hb1) (p_21 := by omega) (p_22 := by omega) (p_23 := by omega) (p_24 := by omega) (p_25 := by omega) (p_26 := by omega) (p_27 := by omega) (p_28 := p_29) (p_29 := (PA_fr (hF267.2 52 rfl) p_30))) (fun o V_q hq => ?_)
          obtain ⟨G278, A279, st2_280, lg2_281, lb2_282, nw2_283, al2_284, fw2_285, rfl, rfl, hW286, hF287, hQ288, hQ289, hQ290, e291, e292, e293, e294, e295, e296, p297, p298, p299, p300, p301, p302, p303, p304, p305, p306, p307, p308, p309, p310, -⟩ := hq
          have hF312 := Fr_tr hF267 hF287 (Fr_sub (by decide)) (Fr_sub (by decide))
          have hC313 := Fx_tr hC269 hQ288 (by omega)
          have hAl314 := Fx_tr hAl270 hQ289 (by omega)
          have hBp315 := Fx_tr hBp271 hQ290 (by omega)
          have sf316 : PE 56 (La) (b6) (mn) A279 := PE_fx hQ290 rfl (by omega) (by omega) sf272
          have sf317 : PE 57 (fL T0 F nw n) (b6) (mn) A279 := PE_fx hQ290 rfl (by omega) (by omega) sf273
          have bst2_280 : (-2147483648 : Int) ≤ st2_280 ∧ st2_280 ≤ 2147483647 := e291 ▸ hW286.1 70
          have blg2_281 : (0 : Int) ≤ lg2_281 ∧ lg2_281 ≤ 1 := e292 ▸ hW286.1 79
          have blb2_282 : (-2147483648 : Int) ≤ lb2_282 ∧ lb2_282 ≤ 2147483647 := e293 ▸ hW286.1 77
          have bnw2_283 : (-2147483648 : Int) ≤ nw2_283 ∧ nw2_283 ≤ 2147483647 := e294 ▸ hW286.1 81
          have bal2_284 : (-2147483648 : Int) ≤ al2_284 ∧ al2_284 ≤ 2147483647 := e295 ▸ hW286.1 89
          have bfw2_285 : (-2147483648 : Int) ≤ fw2_285 ∧ fw2_285 ≤ 2147483647 := e296 ▸ hW286.2 51 _
          refine .inl ⟨rfl, ?_⟩
          have sf318 : Cd (lg2_281 = 0 ∧ lb2_282 < 19999) (gP2 T0 A279 Q k (La) F Sn nw (n) ((i).toNat) (le) (st) (st1) (lb + 1) (lb1)) := Cd_mk (fun hC => gP2_mv (Cg_fx (l0 := lb + 1) (l1 := lb1) hQ288 (Cd_ap p304 (by omega)) (by omega)) (by omega) (Cd_ap sf274 (by omega)))
          have sf319 : Cd (lg2_281 = 0 ∧ lb2_282 < 19999) (LZ A279 (La i) (st1) (lb + 1) (lb1)) := Cd_mk (fun hC => LZ_mv (Cg_fx (l0 := lb + 1) (l1 := lb1) hQ288 (Cd_ap p304 (by omega)) (by omega)) (by omega) (Cd_ap sf275 (by omega)))
          have hBo320 : Cd (lg2_281 = 0 ∧ lb2_282 < 19999) (Fx [50] (lb + 1) A A279) := Cd_mk (fun hC => Fx_tr (Cd_ap hBo277 (by omega)) (Cd_ap p304 (by omega)) (by omega))
          have hfl2 : A279 57 (b6 + i).toNat = F nw - dpt T0 n (i).toNat - T0 26 (kid T0 n (i).toNat).toNat := sf317 i (by omega) (by omega)
          refine jx_ld (pc_q := 400) (l_q := L) (st_q := [.ref 66]) rfl (jl_aloadn gL_0) ?_
          refine jx_ar (pc_q := 401) (st_q := [.int (i32 (1)), .ref 66]) rfl rfl rfl rfl ?_
          refine jx_ld (pc_q := 402) (l_q := L) (st_q := [.int (i32 (w)), .int (i32 (1)), .ref 66]) rfl (jl_iloadn gL_3) ?_
          refine jx_ld (pc_q := 404) (l_q := L) (st_q := [.int (i32 (f9)), .int (i32 (w)), .int (i32 (1)), .ref 66]) rfl (jl_iload gL_9) ?_
          refine jx_add (pc_q := 405) rfl rfl ?_
          refine jx_ld (pc_q := 406) (l_q := L) (st_q := [.ref 66, .int (i32 ((w + f9))), .int (i32 (1)), .ref 66]) rfl (jl_aloadn gL_0) ?_
          refine jr_get (pc_q := 409) (i := 87) (v := .ref 124) rfl rfl (by decide) rfl rfl ?_
          refine jx_ld (pc_q := 411) (l_q := L) (st_q := [.int (i32 (b6)), .ref 124, .int (i32 ((w + f9))), .int (i32 (1)), .ref 66]) rfl (jl_iload gL_6) ?_
          refine jx_ld (pc_q := 413) (l_q := L) (st_q := [.int (i32 (i)), .int (i32 (b6)), .ref 124, .int (i32 ((w + f9))), .int (i32 (1)), .ref 66]) rfl (jl_iload gL_10) ?_
          refine jx_add (pc_q := 414) rfl rfl ?_
          have b321 : (-2147483648 : Int) ≤ A279 57 ((b6 + i)).toNat ∧ A279 57 ((b6 + i)).toNat ≤ 2147483647 := hW286.2 57 _
          refine jr_ldv (pc_q := 415) (i := 57) (m := 320) (z := (b6 + i)) (y := A279 57 ((b6 + i)).toNat) rfl (by decide) rfl (by decide) (by omega) (by omega) rfl (show A279 57 ((b6 + i)).toNat = A279 57 ((b6 + i)).toNat from rfl) ?_
          refine jx_sub (pc_q := 416) rfl rfl ?_
          refine jx_vr (pc_q := 419) (as := [.int (i32 (1)), .int (i32 (((w + f9) - A279 57 ((b6 + i)).toNat)))]) (st := []) rfl rfl rfl rfl ⟨rfl, rfl, Nat.le_of_ble_eq_true rfl⟩ rfl rfl (c_emit (dd := d) (hd := by omega) (hW := hW286) (fn := 1) (v := ((w + f9) - A279 57 ((b6 + i)).toNat)) (st := st2_280) (e_st := show G278 70 = st2_280 from (e291)) (lg := lg2_281) (e_lg := show G278 79 = lg2_281 from (e292))  (h_fn := ⟨(by decide), (by decide)⟩) (h_v := ⟨(by omega), (by omega)⟩)  (p_0 := by omega) (p_1 := by omega)) (fun o V_q hq => ?_)
          obtain ⟨G322, A323, st2_324, lg2_325, rfl, rfl, hW326, hF327, hQ328, e329, e330, p331, p332, p333, p334, p335, p336, -⟩ := hq
          have hF338 := Fr_tr hF312 hF327 (Fr_sub (by decide)) (Fr_sub (by decide))
          have hC339 := Fx_tr hC313 hQ328 (by omega)
          have hAl340 := Fx_f hAl314 hF327 (by decide)
          have hBp341 := Fx_f hBp315 hF327 (by decide)
          have sf342 : PE 56 (La) (b6) (mn) A323 := PE_fr (hF327.2 56 rfl) sf316
          have sf343 : PE 57 (fL T0 F nw n) (b6) (mn) A323 := PE_fr (hF327.2 57 rfl) sf317
          have sf344 := FA_fr (hF327.2 51 rfl) p308
          have sf345 := SA_fr (hF327.2 13 rfl) p309
          have bst2_324 : (-2147483648 : Int) ≤ st2_324 ∧ st2_324 ≤ 2147483647 := e329 ▸ hW326.1 70
          have blg2_325 : (0 : Int) ≤ lg2_325 ∧ lg2_325 ≤ 1 := e330 ▸ hW326.1 79
          refine .inl ⟨rfl, ?_⟩
          have sf346 : Cd (lg2_325 = 0 ∧ lb2_282 < 19999) (gP2 T0 A323 Q k (La) F Sn nw (n) ((i).toNat) (le) (st) (st1) (lb + 1) (lb1)) := Cd_mk (fun hC => gP2_mv (Cg_fx (l0 := lb + 1) (l1 := lb1) hQ328 (Fx_f (w := lb1 + 1) Fx_rf hF327 (by decide)) (by omega)) (by omega) (Cd_ap sf318 (by omega)))
          have sf347 : Cd (lg2_325 = 0 ∧ lb2_282 < 19999) (LZ A323 (La i) (st1) (lb + 1) (lb1)) := Cd_mk (fun hC => LZ_mv (Cg_fx (l0 := lb + 1) (l1 := lb1) hQ328 (Fx_f (w := lb1 + 1) Fx_rf hF327 (by decide)) (by omega)) (by omega) (Cd_ap sf319 (by omega)))
          have sf348 : Cd (lg2_325 = 0 ∧ lb2_282 < 19999) (gP T0 A323 Q (k) (fB T0 F nw n (i).toNat) (sB T0 Sn n (i).toNat) (nw + 1) (c) (st1) (st2_280) (lb1) (lb2_282)) := Cd_mk (fun hC => gP_mv (Cg_fx (l0 := lb1) (l1 := lb2_282) hQ328 (Fx_f (w := lb2_282 + 1) Fx_rf hF327 (by decide)) (by omega)) (by omega) (Cd_ap p310 (by omega)))
          have hBo349 : Cd (lg2_325 = 0 ∧ lb2_282 < 19999) (Fx [50] (lb + 1) A A323) := Cd_mk (fun hC => Fx_f (Cd_ap hBo320 (by omega)) hF327 (by decide))
          refine jx_ld (pc_q := 420) (l_q := L) (st_q := [.ref 66]) rfl (jl_aloadn gL_0) ?_
          refine jx_ar (pc_q := 422) (st_q := [.int (i32 (17)), .ref 66]) rfl rfl rfl rfl ?_
          refine jx_vr (pc_q := 425) (as := [.int (i32 (17))]) (st := []) rfl rfl rfl rfl ⟨rfl, rfl, Nat.le_of_ble_eq_true rfl⟩ rfl rfl (c_op (dd := d) (hd := by omega) (hW := hW326) (oo := 17) (st := st2_324) (e_st := show G322 70 = st2_324 from (e329)) (lg := lg2_325) (e_lg := show G322 79 = lg2_325 from (e330))  (h_oo := ⟨(by decide), (by decide)⟩)  (p_0 := by omega) (p_1 := by omega)) (fun o V_q hq => ?_)
          obtain ⟨G350, A351, st2_352, lg2_353, rfl, rfl, hW354, hF355, hQ356, e357, e358, p359, p360, p361, p362, p363, p364, -⟩ := hq
          have hF366 := Fr_tr hF338 hF355 (Fr_sub (by decide)) (Fr_sub (by decide))
          have hC367 := Fx_tr hC339 hQ356 (by omega)
          have hAl368 := Fx_f hAl340 hF355 (by decide)
          have hBp369 := Fx_f hBp341 hF355 (by decide)
          have sf370 : PE 56 (La) (b6) (mn) A351 := PE_fr (hF355.2 56 rfl) sf342
          have sf371 : PE 57 (fL T0 F nw n) (b6) (mn) A351 := PE_fr (hF355.2 57 rfl) sf343
          have sf372 := FA_fr (hF355.2 51 rfl) sf344
          have sf373 := SA_fr (hF355.2 13 rfl) sf345
          have bst2_352 : (-2147483648 : Int) ≤ st2_352 ∧ st2_352 ≤ 2147483647 := e357 ▸ hW354.1 70
          have blg2_353 : (0 : Int) ≤ lg2_353 ∧ lg2_353 ≤ 1 := e358 ▸ hW354.1 79
          refine .inl ⟨rfl, ?_⟩
          have sf374 : Cd (lg2_353 = 0 ∧ lb2_282 < 19999) (gP2 T0 A351 Q k (La) F Sn nw (n) ((i).toNat) (le) (st) (st1) (lb + 1) (lb1)) := Cd_mk (fun hC => gP2_mv (Cg_fx (l0 := lb + 1) (l1 := lb1) hQ356 (Fx_f (w := lb1 + 1) Fx_rf hF355 (by decide)) (by omega)) (by omega) (Cd_ap sf346 (by omega)))
          have sf375 : Cd (lg2_353 = 0 ∧ lb2_282 < 19999) (LZ A351 (La i) (st1) (lb + 1) (lb1)) := Cd_mk (fun hC => LZ_mv (Cg_fx (l0 := lb + 1) (l1 := lb1) hQ356 (Fx_f (w := lb1 + 1) Fx_rf hF355 (by decide)) (by omega)) (by omega) (Cd_ap sf347 (by omega)))
          have sf376 : Cd (lg2_353 = 0 ∧ lb2_282 < 19999) (gP T0 A351 Q (k) (fB T0 F nw n (i).toNat) (sB T0 Sn n (i).toNat) (nw + 1) (c) (st1) (st2_280) (lb1) (lb2_282)) := Cd_mk (fun hC => gP_mv (Cg_fx (l0 := lb1) (l1 := lb2_282) hQ356 (Fx_f (w := lb2_282 + 1) Fx_rf hF355 (by decide)) (by omega)) (by omega) (Cd_ap sf348 (by omega)))
          have sf377 : Cd (lg2_353 = 0 ∧ lb2_282 < 19999) (ST A351 (st2_280) (st2_324) (1) ((w + f9) - A279 57 ((b6 + i)).toNat)) := Cd_mk (fun hC => ST_mv (Cg_fx (l0 := 0) (l1 := 0) hQ356 (Fx_f (w := 0 + 1) Fx_rf hF355 (by decide)) (by omega)) (by omega) (Cd_ap p336 (by omega)))
          have hBo378 : Cd (lg2_353 = 0 ∧ lb2_282 < 19999) (Fx [50] (lb + 1) A A351) := Cd_mk (fun hC => Fx_f (Cd_ap hBo349 (by omega)) hF355 (by decide))
          refine jx_ld (pc_q := 426) (l_q := L) (st_q := [.ref 66]) rfl (jl_aloadn gL_0) ?_
          refine jx_ar (pc_q := 427) (st_q := [.ref 66, .ref 66]) rfl rfl rfl rfl ?_
          refine jr_get (pc_q := 430) (i := 81) (v := .int (i32 (nw2_283))) rfl rfl (by decide) (rFv_eq (by decide) (show G350 81 = nw2_283 from ((hF355.1 81 rfl).trans ((hF327.1 81 rfl).trans (e294))))) rfl ?_
          refine jx_ar (pc_q := 431) (st_q := [.int (i32 (1)), .int (i32 (nw2_283)), .ref 66]) rfl rfl rfl rfl ?_
          refine jx_sub (pc_q := 432) rfl rfl ?_
          refine jr_put (pc_q := 435) (i := 81) (z := (nw2_283 - 1)) rfl rfl (by decide) rfl rfl rfl rfl rfl rfl ?_
          have hW379 : Wk (uG G350 81 ((nw2_283 - 1))) A351 := Wk_g hW354 (show (-2147483648 : Int) ≤ (nw2_283 - 1) by omega) (show (nw2_283 - 1) ≤ (2147483647 : Int) by omega)
          have hF380 := Fr_g (z := (nw2_283 - 1)) (i := 81) hF366 (by decide)
          have hFAd := FA_dn (F := F) (nw := nw) sf372 fB_l; have hSAd := SA_kdn (S := Sn) sf373 p_19 (fun q => by have := hk3 q; omega); have hfw5 : A351 51 (nw).toNat = fw := ((hFAd nw (by omega) (by omega)).1).trans hfw
          refine jx_ld (pc_q := 436) (l_q := L) (st_q := [.int (i32 (1))]) rfl (jl_iloadn gL_2) ?_
          refine jx_if_eq (pc_q := 439) (tg := 444) rfl rfl rfl (by decide) (by decide) (fun h381 => ?_) (fun h381 => ?_)
          · have _q := h381
            exact absurd h381 (by omega)
          · have _q := h381
            refine jx_ld (pc_q := 441) (l_q := L) (st_q := [.int (i32 (c))]) rfl (jl_iload gL_8) ?_
            refine jx_go (tg := 451) rfl rfl ?_
            refine jx_ld (pc_q := 453) (l_q := jSto1 L 8 (.int (i32 (c)))) (st_q := []) rfl rfl ?_
            obtain ⟨L382, eL382⟩ : ∃ q, q = jSto1 L 8 (.int (i32 (c))) := ⟨_, rfl⟩
            rw [← eL382]
            have gL382_0 : jGet L382 0 = some (.ref 66) := eL382 ▸ jg_ne (by decide) gL_0 rfl
            have gL382_1 : jGet L382 1 = some (.int (i32 (n))) := eL382 ▸ jg_ne (by decide) gL_1 rfl
            have gL382_2 : jGet L382 2 = some (.int (i32 (1))) := eL382 ▸ jg_ne (by decide) gL_2 rfl
            have gL382_3 : jGet L382 3 = some (.int (i32 (w))) := eL382 ▸ jg_ne (by decide) gL_3 rfl
            have gL382_4 : jGet L382 4 = some (.int (i32 (mn))) := eL382 ▸ jg_ne (by decide) gL_4 rfl
            have gL382_5 : jGet L382 5 = some (.int (i32 (le))) := eL382 ▸ jg_ne (by decide) gL_5 rfl
            have gL382_6 : jGet L382 6 = some (.int (i32 (b6))) := eL382 ▸ jg_ne (by decide) gL_6 rfl
            have gL382_9 : jGet L382 9 = some (.int (i32 (f9))) := eL382 ▸ jg_ne (by decide) gL_9 rfl
            have gL382_10 : jGet L382 10 = some (.int (i32 (i))) := eL382 ▸ jg_ne (by decide) gL_10 rfl
            have gL382_8 : jGet L382 8 = some (.int (i32 (c))) := eL382 ▸ jg_eq
            refine jx_inc (pc_q := 456) (l_q := jSto1 L382 10 (.int (i32 ((i + (1)))))) (x := i) rfl gL382_10 (by decide) rfl rfl ?_
            obtain ⟨L383, eL383⟩ : ∃ q, q = jSto1 L382 10 (.int (i32 ((i + (1))))) := ⟨_, rfl⟩
            rw [← eL383]
            have gL383_0 : jGet L383 0 = some (.ref 66) := eL383 ▸ jg_ne (by decide) gL382_0 rfl
            have gL383_1 : jGet L383 1 = some (.int (i32 (n))) := eL383 ▸ jg_ne (by decide) gL382_1 rfl
            have gL383_2 : jGet L383 2 = some (.int (i32 (1))) := eL383 ▸ jg_ne (by decide) gL382_2 rfl
            have gL383_3 : jGet L383 3 = some (.int (i32 (w))) := eL383 ▸ jg_ne (by decide) gL382_3 rfl
            have gL383_4 : jGet L383 4 = some (.int (i32 (mn))) := eL383 ▸ jg_ne (by decide) gL382_4 rfl
            have gL383_5 : jGet L383 5 = some (.int (i32 (le))) := eL383 ▸ jg_ne (by decide) gL382_5 rfl
            have gL383_6 : jGet L383 6 = some (.int (i32 (b6))) := eL383 ▸ jg_ne (by decide) gL382_6 rfl
            have gL383_9 : jGet L383 9 = some (.int (i32 (f9))) := eL383 ▸ jg_ne (by decide) gL382_9 rfl
            have gL383_8 : jGet L383 8 = some (.int (i32 (c))) := eL383 ▸ jg_ne (by decide) gL382_8 rfl
            have gL383_10 : jGet L383 10 = some (.int (i32 ((i + (1))))) := eL383 ▸ jg_eq
            refine jx_go (tg := 312) rfl rfl ?_
            exact ih312_1 _ (by omega) L383 (uG G350 81 ((nw2_283 - 1))) A351 (w) (mn) (le) (b6) (c) (f9) ((i + (1))) (st2_352) (lg2_353) (lb2_282) (fw) (La) rfl gL383_0 gL383_1 gL383_2 gL383_3 gL383_4 gL383_5 gL383_6 gL383_8 gL383_9 gL383_10 hW379 hF380 hC367 hAl368 hBp369 (Cd_mk (fun hC => Cd_ap hBo378 (by omega))) ((e357)) ((e358)) (((hF355.1 77 rfl).trans ((hF327.1 77 rfl).trans (e293)))) ((hfw5)) (Eq.trans (show (uG G350 81 ((nw2_283 - 1))) 81 = (nw2_283 - 1) from rfl) (by omega)) (Eq.trans (show (uG G350 81 ((nw2_283 - 1))) 89 = al2_284 from ((hF355.1 89 rfl).trans ((hF327.1 89 rfl).trans (e295)))) (by omega)) (by omega) (by omega) (by omega) (by omega) (by omega) (by omega) (by omega) (by omega) (by omega) (by omega) (by omega) (by omega) ((Cd_mk (fun hC => by have := Cd_ap iv_5 (by omega); have := Cd_ap p302 (by omega); omega))) (by omega) (by omega) (by omega) (by omega) (by omega) (by omega) (by omega) (by omega) (by omega) (by omega) (by omega) ((Cd_mk (fun hC => (by have hr := Cd_ap iv_17 (by omega); omega)))) (by omega) (hFAd) (hSAd) (sf370) (sf371) (iv_23) ((Cd_mk (fun hC => (gP2_nx (by omega) (by omega) (Cd_ap sf374 (by omega)) (by omega) (Cd_ap sf375 (by omega)).2.2.2 (gP_c iv_10 (Cd_ap sf376 (by omega))) (Cd_ap sf377 (by omega)) (Cd_ap p364 (by omega)) (by omega)))))
set_option maxRecDepth 20000 in
set_option maxHeartbeats 4000000 in
theorem c_genPar_at_118_0 {X : jX} {k : Nat} (hN : GN X k) {d : Nat} {T0 : Nat → Nat → Int} {Q F Sn : Int → Int} {Vs : Nat → Prop} {sb pb : Int} {c0 c1 : jC} {G : Nat → Int} {A : Nat → Nat → Int} {T : jH} {n : Int} {hi s0 s1 D bd : Int} {st lg lb nw al fw : Int} (hd : 2 * k + 63 ≤ d + 1) (hW : Wk G A) (e_st : G 70 = st) (e_lg : G 79 = lg) (e_lb : G 77 = lb) (e_nw : G 81 = nw) (e_al : G 89 = al) (e_fw : A 51 (nw).toNat = fw) (h_n : (-2147483648 : Int) ≤ n ∧ n ≤ 2147483647) (p_0 : TA T0 A) (p_1 : FA F (nw) A) (p_2 : SA T0 Vs Sn A) (p_3 : VW T0 Vs (nw)) (p_4 : 0 ≤ nw) (p_5 : nw + (k : Int) + 1 ≤ 38) (p_6 : 0 ≤ al) (p_7 : al + (k : Int) + 1 ≤ 38) (p_8 : 0 ≤ st) (p_9 : st ≤ 7000) (p_10 : 0 ≤ lb) (p_11 : lb + bd + 7000 - st ≤ 1900000000) (p_12 : hi ≤ 6999) (p_13 : sb ≤ 202) (p_14 : 0 ≤ n) (p_15 : n < hi) (p_16 : 0 ≤ s0) (p_17 : s1 ≤ sb) (p_18 : KD T0 sb pb k Vs (n) (hi) (s0) (s1) (nw) (D)) (p_19 : VB (Vs) (s0)) (p_20 : T0 15 (n).toNat = 28 ∨ T0 15 (n).toNat = 29) (p_21 : 0 ≤ T0 25 (n).toNat) (p_22 : T0 25 (n).toNat + 3 ≤ 4000) (p_23 : WB (n) (hi) (bd)) (p_24 : 0 ≤ D) (p_25 : D ≤ 4000) (p_26 : -4000 ≤ fw - D) (p_27 : fw ≤ 0) (p_28 : pb ≤ 24) (p_29 : PV T0 pb) (p_30 : PA Q pb A) : ∀ (m : Nat) (L : jL) (Gx : Nat → Int) (Ax : Nat → Nat → Int) (w mn le b6 dp c i st1 lg1 lb1 fw1 : Int) (La : Int → Int), (mn - i).toNat = m → jGet L 0 = some (.ref 66) → jGet L 1 = some (.int (i32 (n))) → jGet L 2 = some (.int (i32 (0))) → jGet L 3 = some (.int (i32 w)) → jGet L 4 = some (.int (i32 mn)) → jGet L 5 = some (.int (i32 le)) → jGet L 6 = some (.int (i32 b6)) → jGet L 7 = some (.int (i32 dp)) → jGet L 8 = some (.int (i32 c)) → jGet L 9 = some (.int (i32 i)) → Wk Gx Ax → Fr [70, 77, 79, 81, 89] [13, 44, 45, 46, 47, 50, 51, 56, 57, 58] G A Gx Ax → Fx [44, 45, 46, 47] (st) A Ax → Fx [58] (8 * al) A Ax → Fx [56, 57] (8 * nw) A Ax → Cd (lg1 = 0 ∧ lb1 < 19999) (Fx [50] (lb + 1) A Ax) → Gx 70 = st1 → Gx 79 = lg1 → Gx 77 = lb1 → Ax 51 (nw).toNat = fw1 → Gx 81 = nw → Gx 89 = al → ((-2147483648 : Int) ≤ w ∧ w ≤ 2147483647) → ((-2147483648 : Int) ≤ mn ∧ mn ≤ 2147483647) → ((-2147483648 : Int) ≤ le ∧ le ≤ 2147483647) → ((-2147483648 : Int) ≤ b6 ∧ b6 ≤ 2147483647) → ((-2147483648 : Int) ≤ dp ∧ dp ≤ 2147483647) → ((-2147483648 : Int) ≤ c ∧ c ≤ 2147483647) → ((-2147483648 : Int) ≤ i ∧ i ≤ 2147483647) → (st ≤ st1) → (st1 ≤ 7000) → (lg ≤ lg1) → (lg1 ≤ 1) → (lb + 2 ≤ lb1) → (Cd (lg1 = 0) (lb1 - lb ≤ st1 - st)) → (lb1 - lb ≤ 2 + 2 * i) → (w = T0 25 (n).toNat) → (mn = T0 18 (n).toNat) → (b6 = 8 * nw) → (dp = dpt T0 n (i).toNat) → (c = kid T0 n (i).toNat) → (0 ≤ i) → (i ≤ mn) → (fw1 = fw) → (1 ≤ le) → (le ≤ 19999) → (Cd (lb1 < 20000) (le = lb + 1)) → (T0 15 (n).toNat = 28) → (FA F (nw) Ax) → (SA T0 Vs Sn Ax) → (PE 56 (La) (b6) (i) Ax) → (PE 57 (fL T0 F nw n) (b6) (i) Ax) → (LBd (La) (i)) → (Cd (lg1 = 0 ∧ lb1 < 19999) (gP1 T0 Ax (La) (n) ((i).toNat) (le) (st) (st1) (lb + 1) (lb1))) → wj X d jm358 (118, L, [], rV c0 c1 Gx Ax T) (fun o V_q => ∃ (G_q : Nat → Int) (A_q : Nat → Nat → Int) (st2 : Int) (lg2 : Int) (lb2 : Int) (nw2 : Int) (al2 : Int) (fw2 : Int), V_q = rV c0 c1 G_q A_q T ∧ o = .inl none ∧ Wk G_q A_q ∧ Fr [70, 77, 79, 81, 89] [13, 44, 45, 46, 47, 50, 51, 56, 57, 58] G A G_q A_q ∧ Fx [44, 45, 46, 47] (st) A A_q ∧ Fx [58] (8 * al) A A_q ∧ Fx [56, 57] (8 * nw) A A_q ∧ G_q 70 = st2 ∧ G_q 79 = lg2 ∧ G_q 77 = lb2 ∧ G_q 81 = nw2 ∧ G_q 89 = al2 ∧ A_q 51 (nw).toNat = fw2 ∧ (st ≤ st2) ∧ (st2 ≤ 7000) ∧ (lg ≤ lg2) ∧ (lg2 ≤ 1) ∧ (lb ≤ lb2) ∧ (Cd (lg2 = 0) (lb2 - lb ≤ st2 - st)) ∧ (lb2 - lb ≤ st2 - st + bd) ∧ (Cd (lg2 = 0 ∧ lb2 < 19999) (Fx [50] (lb + 1) A A_q)) ∧ (nw2 = nw) ∧ (al2 = al) ∧ (fw2 = fw) ∧ (FA F (nw) A_q) ∧ (SA T0 Vs Sn A_q) ∧ (Cd (lg2 = 0 ∧ lb2 < 19999) (gPa T0 A_q (gP T0 A_q Q k) F Sn nw (n) (st) (st2) (lb) (lb2))) ∧ True) := by
  have hF0 : Fr [70, 77, 79, 81, 89] [13, 44, 45, 46, 47, 50, 51, 56, 57, 58] G A G A := Fr_rf
  have hC0 : Fx [44, 45, 46, 47] (st) A A := Fx_rf
  have hAl0 : Fx [58] (8 * al) A A := Fx_rf
  have hBp0 : Fx [56, 57] (8 * nw) A A := Fx_rf
  have b_st : (-2147483648 : Int) ≤ st ∧ st ≤ 2147483647 := e_st ▸ hW.1 70
  have b_lg : (0 : Int) ≤ lg ∧ lg ≤ 1 := e_lg ▸ hW.1 79
  have b_lb : (-2147483648 : Int) ≤ lb ∧ lb ≤ 2147483647 := e_lb ▸ hW.1 77
  have b_nw : (-2147483648 : Int) ≤ nw ∧ nw ≤ 2147483647 := e_nw ▸ hW.1 81
  have b_al : (-2147483648 : Int) ≤ al ∧ al ≤ 2147483647 := e_al ▸ hW.1 89
  have b_fw : (-2147483648 : Int) ≤ fw ∧ fw ≤ 2147483647 := e_fw ▸ hW.2 51 _
  have hWT := TA_w hW p_0
  have hBo0 : Cd (lg = 0 ∧ lb < 19999) (Fx [50] (lb + 1) A A) := Cd_mk (fun _ => Fx_rf)
  have hfw := FA_at p_1 p_4 e_fw
  have hKD := p_18; obtain ⟨hk1, hk2, hk3, hk4⟩ := hKD
  have hbp := WB_p p_23 (by omega) (by omega) (by omega)
  intro m
  induction m using Nat.strongRecOn with
  | ind m ih118_0 =>
    intro L Gx Ax w mn le b6 dp c i st1 lg1 lb1 fw1 La hm gL_0 gL_1 gL_2 gL_3 gL_4 gL_5 gL_6 gL_7 gL_8 gL_9 hWx hFx hCx hAlx hBpx hBox ex_st1 ex_lg1 ex_lb1 ex_fw1 fx_81 fx_89 rx_w rx_mn rx_le rx_b6 rx_dp rx_c rx_i iv_0 iv_1 iv_2 iv_3 iv_4 iv_5 iv_6 iv_7 iv_8 iv_9 iv_10 iv_11 iv_12 iv_13 iv_14 iv_15 iv_16 iv_17 iv_18 iv_19 iv_20 iv_21 iv_22 iv_23 iv_24
    have b_st1 : (-2147483648 : Int) ≤ st1 ∧ st1 ≤ 2147483647 := ex_st1 ▸ hWx.1 70
    have b_lg1 : (0 : Int) ≤ lg1 ∧ lg1 ≤ 1 := ex_lg1 ▸ hWx.1 79
    have b_lb1 : (-2147483648 : Int) ≤ lb1 ∧ lb1 ≤ 2147483647 := ex_lb1 ▸ hWx.1 77
    have hmy : mny T0 n = T0 18 (n).toNat := if_neg (by omega)
    refine jx_ld (pc_q := 120) (l_q := L) (st_q := [.int (i32 (i))]) rfl (jl_iload gL_9) ?_
    refine jx_ld (pc_q := 122) (l_q := L) (st_q := [.int (i32 (mn)), .int (i32 (i))]) rfl (jl_iload gL_4) ?_
    refine jx_icmp_ge (pc_q := 125) (tg := 284) rfl rfl rfl (Int.le_trans (by decide : (-2147483648 : Int) ≤ -2147483648) rx_i.1) (Int.le_trans rx_i.2 (by decide : (2147483647 : Int) ≤ 2147483647)) (Int.le_trans (by decide : (-2147483648 : Int) ≤ -2147483648) rx_mn.1) (Int.le_trans rx_mn.2 (by decide : (2147483647 : Int) ≤ 2147483647)) (fun h384 => ?_) (fun h384 => ?_)
    · have _q := h384
      refine jx_ld (pc_q := 285) (l_q := L) (st_q := [.ref 66]) rfl (jl_aloadn gL_0) ?_
      refine jx_ar (pc_q := 287) (st_q := [.int (i32 (18)), .ref 66]) rfl rfl rfl rfl ?_
      refine jx_vr (pc_q := 290) (as := [.int (i32 (18))]) (st := []) rfl rfl rfl rfl ⟨rfl, rfl, Nat.le_of_ble_eq_true rfl⟩ rfl rfl (c_op (dd := d) (hd := by omega) (hW := hWx) (oo := 18) (st := st1) (e_st := show Gx 70 = st1 from (ex_st1)) (lg := lg1) (e_lg := show Gx 79 = lg1 from (ex_lg1))  (h_oo := ⟨(by decide), (by decide)⟩)  (p_0 := by omega) (p_1 := by omega)) (fun o V_q hq => ?_)
      obtain ⟨G385, A386, st2_387, lg2_388, rfl, rfl, hW389, hF390, hQ391, e392, e393, p394, p395, p396, p397, p398, p399, -⟩ := hq
      have hF401 := Fr_tr hFx hF390 (Fr_sub (by decide)) (Fr_sub (by decide))
      have hC402 := Fx_tr hCx hQ391 (by omega)
      have hAl403 := Fx_f hAlx hF390 (by decide)
      have hBp404 := Fx_f hBpx hF390 (by decide)
      have sf405 := FA_fr (hF390.2 51 rfl) iv_19
      have sf406 := SA_fr (hF390.2 13 rfl) iv_20
      have sf407 : PE 56 (La) (b6) (i) A386 := PE_fr (hF390.2 56 rfl) iv_21
      have sf408 : PE 57 (fL T0 F nw n) (b6) (i) A386 := PE_fr (hF390.2 57 rfl) iv_22
      have bst2_387 : (-2147483648 : Int) ≤ st2_387 ∧ st2_387 ≤ 2147483647 := e392 ▸ hW389.1 70
      have blg2_388 : (0 : Int) ≤ lg2_388 ∧ lg2_388 ≤ 1 := e393 ▸ hW389.1 79
      refine .inl ⟨rfl, ?_⟩
      have sf409 : Cd (lg2_388 = 0 ∧ lb1 < 19999) (gP1 T0 A386 (La) (n) ((i).toNat) (le) (st) (st1) (lb + 1) (lb1)) := Cd_mk (fun hC => gP1_mv (Cg_fx (l0 := lb + 1) (l1 := lb1) hQ391 (Fx_f (w := lb1 + 1) Fx_rf hF390 (by decide)) (by omega)) (by omega) (Cd_ap iv_24 (by omega)))
      have hBo410 : Cd (lg2_388 = 0 ∧ lb1 < 19999) (Fx [50] (lb + 1) A A386) := Cd_mk (fun hC => Fx_f (Cd_ap hBox (by omega)) hF390 (by decide))
      refine jx_ld (pc_q := 291) (l_q := L) (st_q := [.ref 66]) rfl (jl_aloadn gL_0) ?_
      refine jr_get (pc_q := 294) (i := 80) (v := .ref 118) rfl rfl (by decide) rfl rfl ?_
      refine jx_ld (pc_q := 295) (l_q := L) (st_q := [.ref 66, .ref 118]) rfl (jl_aloadn gL_0) ?_
      refine jr_get (pc_q := 298) (i := 81) (v := .int (i32 (nw))) rfl rfl (by decide) (rFv_eq (by decide) (show G385 81 = nw from ((hF390.1 81 rfl).trans (fx_81)))) rfl ?_
      refine jr_ldv (pc_q := 299) (i := 51) (m := 40) (z := nw) (y := fw1) rfl (by decide) rfl (by decide) (by omega) (by omega) rfl (show A386 51 (nw).toNat = fw1 from (congrFun (hF390.2 51 rfl) _).trans (ex_fw1)) ?_
      refine jx_ld (pc_q := 301) (l_q := jSto1 L 9 (.int (i32 (fw1)))) (st_q := []) rfl rfl ?_
      obtain ⟨L411, eL411⟩ : ∃ q, q = jSto1 L 9 (.int (i32 (fw1))) := ⟨_, rfl⟩
      rw [← eL411]
      have gL411_0 : jGet L411 0 = some (.ref 66) := eL411 ▸ jg_ne (by decide) gL_0 rfl
      have gL411_1 : jGet L411 1 = some (.int (i32 (n))) := eL411 ▸ jg_ne (by decide) gL_1 rfl
      have gL411_2 : jGet L411 2 = some (.int (i32 (0))) := eL411 ▸ jg_ne (by decide) gL_2 rfl
      have gL411_3 : jGet L411 3 = some (.int (i32 (w))) := eL411 ▸ jg_ne (by decide) gL_3 rfl
      have gL411_4 : jGet L411 4 = some (.int (i32 (mn))) := eL411 ▸ jg_ne (by decide) gL_4 rfl
      have gL411_5 : jGet L411 5 = some (.int (i32 (le))) := eL411 ▸ jg_ne (by decide) gL_5 rfl
      have gL411_6 : jGet L411 6 = some (.int (i32 (b6))) := eL411 ▸ jg_ne (by decide) gL_6 rfl
      have gL411_7 : jGet L411 7 = some (.int (i32 (dp))) := eL411 ▸ jg_ne (by decide) gL_7 rfl
      have gL411_8 : jGet L411 8 = some (.int (i32 (c))) := eL411 ▸ jg_ne (by decide) gL_8 rfl
      have gL411_9 : jGet L411 9 = some (.int (i32 (fw1))) := eL411 ▸ jg_eq
      have hmy : mny T0 n = T0 18 (n).toNat := if_neg (by omega); have hk0 : kid T0 n (0 : Int).toNat = T0 21 (n).toNat := kid_28 (by omega); have hd0 : dpt T0 n (0 : Int).toNat = 3 := rfl
      refine jx_ld (pc_q := 302) (l_q := L411) (st_q := [.ref 66]) rfl (jl_aloadn gL411_0) ?_
      refine jr_get (pc_q := 305) (i := 38) (v := .ref 88) rfl rfl (by decide) rfl rfl ?_
      refine jx_ld (pc_q := 306) (l_q := L411) (st_q := [.int (i32 (n)), .ref 88]) rfl (jl_iloadn gL411_1) ?_
      have b412 : (-2147483648 : Int) ≤ T0 21 (n).toNat ∧ T0 21 (n).toNat ≤ 2147483647 := hWT.2 21 _
      refine jr_ldv (pc_q := 307) (i := 21) (m := 7000) (z := n) (y := T0 21 (n).toNat) rfl (by decide) rfl (by decide) (by omega) (by omega) rfl (show A386 21 (n).toNat = T0 21 (n).toNat from (congrFun ((hF390.2 21 rfl).trans ((hFx.2 21 rfl).trans (p_0 21 rfl))) _)) ?_
      refine jx_ld (pc_q := 309) (l_q := jSto1 L411 8 (.int (i32 (T0 21 (n).toNat)))) (st_q := []) rfl rfl ?_
      obtain ⟨L413, eL413⟩ : ∃ q, q = jSto1 L411 8 (.int (i32 (T0 21 (n).toNat))) := ⟨_, rfl⟩
      rw [← eL413]
      have gL413_0 : jGet L413 0 = some (.ref 66) := eL413 ▸ jg_ne (by decide) gL411_0 rfl
      have gL413_1 : jGet L413 1 = some (.int (i32 (n))) := eL413 ▸ jg_ne (by decide) gL411_1 rfl
      have gL413_2 : jGet L413 2 = some (.int (i32 (0))) := eL413 ▸ jg_ne (by decide) gL411_2 rfl
      have gL413_3 : jGet L413 3 = some (.int (i32 (w))) := eL413 ▸ jg_ne (by decide) gL411_3 rfl
      have gL413_4 : jGet L413 4 = some (.int (i32 (mn))) := eL413 ▸ jg_ne (by decide) gL411_4 rfl
      have gL413_5 : jGet L413 5 = some (.int (i32 (le))) := eL413 ▸ jg_ne (by decide) gL411_5 rfl
      have gL413_6 : jGet L413 6 = some (.int (i32 (b6))) := eL413 ▸ jg_ne (by decide) gL411_6 rfl
      have gL413_7 : jGet L413 7 = some (.int (i32 (dp))) := eL413 ▸ jg_ne (by decide) gL411_7 rfl
      have gL413_9 : jGet L413 9 = some (.int (i32 (fw1))) := eL413 ▸ jg_ne (by decide) gL411_9 rfl
      have gL413_8 : jGet L413 8 = some (.int (i32 (T0 21 (n).toNat))) := eL413 ▸ jg_eq
      refine jx_ar (pc_q := 310) (st_q := [.int (i32 (0))]) rfl rfl rfl rfl ?_
      refine jx_ld (pc_q := 312) (l_q := jSto1 L413 10 (.int (i32 (0)))) (st_q := []) rfl rfl ?_
      obtain ⟨L414, eL414⟩ : ∃ q, q = jSto1 L413 10 (.int (i32 (0))) := ⟨_, rfl⟩
      rw [← eL414]
      have gL414_0 : jGet L414 0 = some (.ref 66) := eL414 ▸ jg_ne (by decide) gL413_0 rfl
      have gL414_1 : jGet L414 1 = some (.int (i32 (n))) := eL414 ▸ jg_ne (by decide) gL413_1 rfl
      have gL414_2 : jGet L414 2 = some (.int (i32 (0))) := eL414 ▸ jg_ne (by decide) gL413_2 rfl
      have gL414_3 : jGet L414 3 = some (.int (i32 (w))) := eL414 ▸ jg_ne (by decide) gL413_3 rfl
      have gL414_4 : jGet L414 4 = some (.int (i32 (mn))) := eL414 ▸ jg_ne (by decide) gL413_4 rfl
      have gL414_5 : jGet L414 5 = some (.int (i32 (le))) := eL414 ▸ jg_ne (by decide) gL413_5 rfl
      have gL414_6 : jGet L414 6 = some (.int (i32 (b6))) := eL414 ▸ jg_ne (by decide) gL413_6 rfl
      have gL414_7 : jGet L414 7 = some (.int (i32 (dp))) := eL414 ▸ jg_ne (by decide) gL413_7 rfl
      have gL414_9 : jGet L414 9 = some (.int (i32 (fw1))) := eL414 ▸ jg_ne (by decide) gL413_9 rfl
      have gL414_8 : jGet L414 8 = some (.int (i32 (T0 21 (n).toNat))) := eL414 ▸ jg_ne (by decide) gL413_8 rfl
      have gL414_10 : jGet L414 10 = some (.int (i32 (0))) := eL414 ▸ jg_eq
      exact c_genPar_at_312_0 (X := X) (k := k) (hN := hN) (d := d) (T0 := T0) (Q := Q) (F := F) (Sn := Sn) (Vs := Vs) (sb := sb) (pb := pb) (c0 := c0) (c1 := c1) (G := G) (A := A) (T := T) (n := n) (hi := hi) (s0 := s0) (s1 := s1) (D := D) (bd := bd) (st := st) (lg := lg) (lb := lb) (nw := nw) (al := al) (fw := fw) (hd := hd) (hW := hW) (e_st := e_st) (e_lg := e_lg) (e_lb := e_lb) (e_nw := e_nw) (e_al := e_al) (e_fw := e_fw) (h_n := h_n) (p_0 := p_0) (p_1 := p_1) (p_2 := p_2) (p_3 := p_3) (p_4 := p_4) (p_5 := p_5) (p_6 := p_6) (p_7 := p_7) (p_8 := p_8) (p_9 := p_9) (p_10 := p_10) (p_11 := p_11) (p_12 := p_12) (p_13 := p_13) (p_14 := p_14) (p_15 := p_15) (p_16 := p_16) (p_17 := p_17) (p_18 := p_18) (p_19 := p_19) (p_20 := p_20) (p_21 := p_21) (p_22 := p_22) (p_23 := p_23) (p_24 := p_24) (p_25 := p_25) (p_26 := p_26) (p_27 := p_27) (p_28 := p_28) (p_29 := p_29) (p_30 := p_30) _ L414 G385 A386 (w) (mn) (le) (b6) (T0 21 (n).toNat) (fw1) (0) (st2_387) (lg2_388) (lb1) (fw1) (La) rfl gL414_0 gL414_1 gL414_2 gL414_3 gL414_4 gL414_5 gL414_6 gL414_8 gL414_9 gL414_10 hW389 hF401 hC402 hAl403 hBp404 (Cd_mk (fun hC => Cd_ap hBo410 (by omega))) ((e392)) ((e393)) (((hF390.1 77 rfl).trans (ex_lb1))) ((congrFun (hF390.2 51 rfl) _).trans (ex_fw1)) (((hF390.1 81 rfl).trans (fx_81))) (((hF390.1 89 rfl).trans (fx_89))) (by omega) (by omega) (by omega) (by omega) (by omega) (by omega) (by omega) (by omega) (by omega) (by omega) (by omega) (by omega) ((Cd_mk (fun hC => by have := Cd_ap iv_5 (by omega); omega))) (by omega) (by omega) (by omega) (by omega) (by omega) (by omega) (by omega) (by omega) (by omega) (by omega) (by omega) ((Cd_mk (fun hC => (by have hr := Cd_ap iv_17 (by omega); omega)))) (by omega) (sf405) (sf406) ((PE_i (by omega) sf407)) ((PE_i (by omega) sf408)) ((LBd_i (by omega) iv_23)) ((Cd_mk (fun hC => (gP2_0 (by omega) (Cd_ap sf409 (by omega)) (by omega) (Cd_ap p399 (by omega)) (by omega) rfl))))
    · have _q := h384
      obtain ⟨hj1, ⟨a8, b8, u8, v8, ha8, hb8, hu8, hu9, hv8, hw8⟩, hj3, hj4, hj5, hj6, hj7⟩ := hk4 (i).toNat (by omega); have hin8 := wP_in hw8; have hk26 : T0 26 (c).toNat = T0 26 (kid T0 n (i).toNat).toNat := (by rw [iv_11]); have hk27 : T0 27 (c).toNat = T0 27 (kid T0 n (i).toNat).toNat := (by rw [iv_11]); have hk22 : T0 22 (c).toNat = T0 22 (kid T0 n (i).toNat).toNat := (by rw [iv_11])
      refine jx_ld (pc_q := 126) (l_q := L) (st_q := [.ref 66]) rfl (jl_aloadn gL_0) ?_
      refine jr_get (pc_q := 129) (i := 86) (v := .ref 123) rfl rfl (by decide) rfl rfl ?_
      refine jx_ld (pc_q := 131) (l_q := L) (st_q := [.int (i32 (b6)), .ref 123]) rfl (jl_iload gL_6) ?_
      refine jx_ld (pc_q := 133) (l_q := L) (st_q := [.int (i32 (i)), .int (i32 (b6)), .ref 123]) rfl (jl_iload gL_9) ?_
      refine jx_add (pc_q := 134) rfl rfl ?_
      refine jx_ld (pc_q := 135) (l_q := L) (st_q := [.ref 66, .int (i32 ((b6 + i))), .ref 123]) rfl (jl_aloadn gL_0) ?_
      refine jx_vr (pc_q := 138) (as := []) (st := [.int (i32 ((b6 + i))), .ref 123]) rfl rfl rfl rfl ⟨rfl, rfl, Nat.le_of_ble_eq_true rfl⟩ rfl rfl (c_label (dd := d) (hd := by omega) (hW := hWx)  (lb := lb1) (e_lb := show Gx 77 = lb1 from (ex_lb1))    (p_0 := by omega) (p_1 := by omega)) (fun o V_q hq => ?_)
      obtain ⟨G415, A416, r417, lb2_418, rfl, rfl, hW419, hF420, b421, e422, p423, p424, p425, p426, -⟩ := hq
      have hF428 := Fr_tr hFx hF420 (Fr_sub (by decide)) (Fr_sub (by decide))
      have hC429 := Fx_f hCx hF420 (by decide)
      have hAl430 := Fx_f hAlx hF420 (by decide)
      have hBp431 := Fx_f hBpx hF420 (by decide)
      have sf432 := FA_fr (hF420.2 51 rfl) iv_19
      have sf433 := SA_fr (hF420.2 13 rfl) iv_20
      have sf434 : PE 56 (La) (b6) (i) A416 := PE_fr (hF420.2 56 rfl) iv_21
      have sf435 : PE 57 (fL T0 F nw n) (b6) (i) A416 := PE_fr (hF420.2 57 rfl) iv_22
      have blb2_418 : (-2147483648 : Int) ≤ lb2_418 ∧ lb2_418 ≤ 2147483647 := e422 ▸ hW419.1 77
      refine .inr ⟨_, rfl, ?_⟩
      have sf436 : Cd (lg1 = 0 ∧ lb2_418 < 19999) (gP1 T0 A416 (La) (n) ((i).toNat) (le) (st) (st1) (lb + 1) (lb1)) := Cd_mk (fun hC => gP1_mv (Cg_fx (l0 := lb + 1) (l1 := lb1) (Fx_f (w := st1) Fx_rf hF420 (by decide)) (Fx_f (w := lb1 + 1) Fx_rf hF420 (by decide)) (by omega)) (by omega) (Cd_ap iv_24 (by omega)))
      have hBo437 : Cd (lg1 = 0 ∧ lb2_418 < 19999) (Fx [50] (lb + 1) A A416) := Cd_mk (fun hC => Fx_f (Cd_ap hBox (by omega)) hF420 (by decide))
      have _q : True := trivial
      refine jr_st (pc_q := 139) (i := 56) (m := 320) (z := (b6 + i)) (y := r417) rfl (by decide) rfl (by decide) (by omega) (by omega) rfl ?_
      have hW439 : Wk G415 (uA A416 56 ((b6 + i)).toNat (r417)) := Wk_a hW419 (show (-2147483648 : Int) ≤ r417 by omega) (show r417 ≤ (2147483647 : Int) by omega)
      have hF440 := Fr_a (z := r417) (k := 56) (n := ((b6 + i)).toNat) hF428 (by decide)
      obtain ⟨A438, eA438⟩ : ∃ q, q = uA A416 56 ((b6 + i)).toNat (r417) := ⟨_, rfl⟩
      rw [← eA438]
      rw [← eA438] at hW439 hF440
      have q441 : A438 56 ((b6 + i)).toNat = r417 := by rw [eA438]; exact uA_eq
      have hC442 : Fx [44, 45, 46, 47] (st) A A438 := eA438 ▸ Fx_n hC429 rfl
      have hAl443 : Fx [58] (8 * al) A A438 := eA438 ▸ Fx_n hAl430 rfl
      have hBp444 : Fx [56, 57] (8 * nw) A A438 := eA438 ▸ Fx_a hBp431 (z := (b6 + i)) (by omega) (by omega)
      have sf445 := FA_fr ((congrFun eA438 51).trans (uA_ne (by decide))) sf432
      have sf446 := SA_fr ((congrFun eA438 13).trans (uA_ne (by decide))) sf433
      have sf447 : PE 56 (upf La i r417) (b6) ((i + 1)) A438 := PE_nx eA438 (by omega) (by omega) (by omega) (by omega) upf_e (PE_up sf434)
      have sf448 : PE 57 (fL T0 F nw n) (b6) (i) A438 := PE_fr ((congrFun eA438 57).trans (uA_ne (by decide))) sf435
      have sf449 : Cd (lg1 = 0 ∧ lb2_418 < 19999) (gP1 T0 A438 (La) (n) ((i).toNat) (le) (st) (st1) (lb + 1) (lb1)) := Cd_mk (fun hC => gP1_mv (Cg_ne (K := st1) eA438 rfl) (Int.le_refl _) (Cd_ap sf436 (by omega)))
      have hBo450 : Cd (lg1 = 0 ∧ lb2_418 < 19999) (Fx [50] (lb + 1) A A438) := Cd_mk (fun hC => Fx_un eA438 (Cd_ap hBo437 (by omega)) rfl)
      have hds := dpt_s (T := T0) (p := n) (i := i) (by omega); have hks := kid_s (T := T0) (p := n) (i := i) (by omega) iv_18
      refine jx_ld (pc_q := 140) (l_q := L) (st_q := [.ref 66]) rfl (jl_aloadn gL_0) ?_
      refine jr_get (pc_q := 143) (i := 87) (v := .ref 124) rfl rfl (by decide) rfl rfl ?_
      refine jx_ld (pc_q := 145) (l_q := L) (st_q := [.int (i32 (b6)), .ref 124]) rfl (jl_iload gL_6) ?_
      refine jx_ld (pc_q := 147) (l_q := L) (st_q := [.int (i32 (i)), .int (i32 (b6)), .ref 124]) rfl (jl_iload gL_9) ?_
      refine jx_add (pc_q := 148) rfl rfl ?_
      refine jx_ld (pc_q := 149) (l_q := L) (st_q := [.ref 66, .int (i32 ((b6 + i))), .ref 124]) rfl (jl_aloadn gL_0) ?_
      refine jr_get (pc_q := 152) (i := 80) (v := .ref 118) rfl rfl (by decide) rfl rfl ?_
      refine jx_ld (pc_q := 153) (l_q := L) (st_q := [.ref 66, .ref 118, .int (i32 ((b6 + i))), .ref 124]) rfl (jl_aloadn gL_0) ?_
      refine jr_get (pc_q := 156) (i := 81) (v := .int (i32 (nw))) rfl rfl (by decide) (rFv_eq (by decide) (show G415 81 = nw from ((hF420.1 81 rfl).trans (fx_81)))) rfl ?_
      refine jr_ldv (pc_q := 157) (i := 51) (m := 40) (z := nw) (y := fw1) rfl (by decide) rfl (by decide) (by omega) (by omega) rfl (show A438 51 (nw).toNat = fw1 from (congrFun (((congrFun eA438 51).trans (uA_ne (by decide))).trans (hF420.2 51 rfl)) _).trans (ex_fw1)) ?_
      refine jx_ld (pc_q := 159) (l_q := L) (st_q := [.int (i32 (dp)), .int (i32 (fw1)), .int (i32 ((b6 + i))), .ref 124]) rfl (jl_iload gL_7) ?_
      refine jx_sub (pc_q := 160) rfl rfl ?_
      refine jx_ld (pc_q := 161) (l_q := L) (st_q := [.ref 66, .int (i32 ((fw1 - dp))), .int (i32 ((b6 + i))), .ref 124]) rfl (jl_aloadn gL_0) ?_
      refine jr_get (pc_q := 164) (i := 43) (v := .ref 93) rfl rfl (by decide) rfl rfl ?_
      refine jx_ld (pc_q := 166) (l_q := L) (st_q := [.int (i32 (c)), .ref 93, .int (i32 ((fw1 - dp))), .int (i32 ((b6 + i))), .ref 124]) rfl (jl_iload gL_8) ?_
      have b451 : (-2147483648 : Int) ≤ T0 26 (c).toNat ∧ T0 26 (c).toNat ≤ 2147483647 := hWT.2 26 _
      refine jr_ldv (pc_q := 167) (i := 26) (m := 7000) (z := c) (y := T0 26 (c).toNat) rfl (by decide) rfl (by decide) (by omega) (by omega) rfl (show A438 26 (c).toNat = T0 26 (c).toNat from (congrFun (((congrFun eA438 26).trans (uA_ne (by decide))).trans ((hF420.2 26 rfl).trans ((hFx.2 26 rfl).trans (p_0 26 rfl)))) _)) ?_
      refine jx_sub (pc_q := 168) rfl rfl ?_
      refine jr_st (pc_q := 169) (i := 57) (m := 320) (z := (b6 + i)) (y := ((fw1 - dp) - T0 26 (c).toNat)) rfl (by decide) rfl (by decide) (by omega) (by omega) rfl ?_
      have hW453 : Wk G415 (uA A438 57 ((b6 + i)).toNat (((fw1 - dp) - T0 26 (c).toNat))) := Wk_a hW439 (show (-2147483648 : Int) ≤ ((fw1 - dp) - T0 26 (c).toNat) by omega) (show ((fw1 - dp) - T0 26 (c).toNat) ≤ (2147483647 : Int) by omega)
      have hF454 := Fr_a (z := ((fw1 - dp) - T0 26 (c).toNat)) (k := 57) (n := ((b6 + i)).toNat) hF440 (by decide)
      obtain ⟨A452, eA452⟩ : ∃ q, q = uA A438 57 ((b6 + i)).toNat (((fw1 - dp) - T0 26 (c).toNat)) := ⟨_, rfl⟩
      rw [← eA452]
      rw [← eA452] at hW453 hF454
      have q455 : A452 57 ((b6 + i)).toNat = ((fw1 - dp) - T0 26 (c).toNat) := by rw [eA452]; exact uA_eq
      have hC456 : Fx [44, 45, 46, 47] (st) A A452 := eA452 ▸ Fx_n hC442 rfl
      have hAl457 : Fx [58] (8 * al) A A452 := eA452 ▸ Fx_n hAl443 rfl
      have hBp458 : Fx [56, 57] (8 * nw) A A452 := eA452 ▸ Fx_a hBp444 (z := (b6 + i)) (by omega) (by omega)
      have sf459 := FA_fr ((congrFun eA452 51).trans (uA_ne (by decide))) sf445
      have sf460 := SA_fr ((congrFun eA452 13).trans (uA_ne (by decide))) sf446
      have sf461 : PE 56 (upf La i r417) (b6) ((i + 1)) A452 := PE_fr ((congrFun eA452 56).trans (uA_ne (by decide))) sf447
      have sf462 : PE 57 (fL T0 F nw n) (b6) ((i + 1)) A452 := PE_nx eA452 (by omega) (by omega) (by omega) (by omega) (show fL T0 F nw n (i) = ((fw1 - dp) - T0 26 (c).toNat) by unfold fL; omega) sf448
      have sf463 : Cd (lg1 = 0 ∧ lb2_418 < 19999) (gP1 T0 A452 (La) (n) ((i).toNat) (le) (st) (st1) (lb + 1) (lb1)) := Cd_mk (fun hC => gP1_mv (Cg_ne (K := st1) eA452 rfl) (Int.le_refl _) (Cd_ap sf449 (by omega)))
      have hBo464 : Cd (lg1 = 0 ∧ lb2_418 < 19999) (Fx [50] (lb + 1) A A452) := Cd_mk (fun hC => Fx_un eA452 (Cd_ap hBo450 (by omega)) rfl)
      refine jx_ld (pc_q := 171) (l_q := L) (st_q := [.int (i32 (dp))]) rfl (jl_iload gL_7) ?_
      refine jx_ld (pc_q := 172) (l_q := L) (st_q := [.ref 66, .int (i32 (dp))]) rfl (jl_aloadn gL_0) ?_
      refine jr_get (pc_q := 175) (i := 43) (v := .ref 93) rfl rfl (by decide) rfl rfl ?_
      refine jx_ld (pc_q := 177) (l_q := L) (st_q := [.int (i32 (c)), .ref 93, .int (i32 (dp))]) rfl (jl_iload gL_8) ?_
      refine jr_ldv (pc_q := 178) (i := 26) (m := 7000) (z := c) (y := T0 26 (c).toNat) rfl (by decide) rfl (by decide) (by omega) (by omega) rfl (show A452 26 (c).toNat = T0 26 (c).toNat from (congrFun (((congrFun eA452 26).trans (uA_ne (by decide))).trans (((congrFun eA438 26).trans (uA_ne (by decide))).trans ((hF420.2 26 rfl).trans ((hFx.2 26 rfl).trans (p_0 26 rfl))))) _)) ?_
      refine jx_add (pc_q := 179) rfl rfl ?_
      refine jx_ld (pc_q := 180) (l_q := L) (st_q := [.ref 66, .int (i32 ((dp + T0 26 (c).toNat)))]) rfl (jl_aloadn gL_0) ?_
      refine jr_get (pc_q := 183) (i := 44) (v := .ref 94) rfl rfl (by decide) rfl rfl ?_
      refine jx_ld (pc_q := 185) (l_q := L) (st_q := [.int (i32 (c)), .ref 94, .int (i32 ((dp + T0 26 (c).toNat)))]) rfl (jl_iload gL_8) ?_
      have b465 : (-2147483648 : Int) ≤ T0 27 (c).toNat ∧ T0 27 (c).toNat ≤ 2147483647 := hWT.2 27 _
      refine jr_ldv (pc_q := 186) (i := 27) (m := 7000) (z := c) (y := T0 27 (c).toNat) rfl (by decide) rfl (by decide) (by omega) (by omega) rfl (show A452 27 (c).toNat = T0 27 (c).toNat from (congrFun (((congrFun eA452 27).trans (uA_ne (by decide))).trans (((congrFun eA438 27).trans (uA_ne (by decide))).trans ((hF420.2 27 rfl).trans ((hFx.2 27 rfl).trans (p_0 27 rfl))))) _)) ?_
      refine jx_add (pc_q := 187) rfl rfl ?_
      refine jx_ar (pc_q := 188) (st_q := [.int (i32 (3)), .int (i32 (((dp + T0 26 (c).toNat) + T0 27 (c).toNat)))]) rfl rfl rfl rfl ?_
      refine jx_add (pc_q := 189) rfl rfl ?_
      refine jx_ld (pc_q := 191) (l_q := jSto1 L 7 (.int (i32 ((((dp + T0 26 (c).toNat) + T0 27 (c).toNat) + 3))))) (st_q := []) rfl rfl ?_
      obtain ⟨L466, eL466⟩ : ∃ q, q = jSto1 L 7 (.int (i32 ((((dp + T0 26 (c).toNat) + T0 27 (c).toNat) + 3)))) := ⟨_, rfl⟩
      rw [← eL466]
      have gL466_0 : jGet L466 0 = some (.ref 66) := eL466 ▸ jg_ne (by decide) gL_0 rfl
      have gL466_1 : jGet L466 1 = some (.int (i32 (n))) := eL466 ▸ jg_ne (by decide) gL_1 rfl
      have gL466_2 : jGet L466 2 = some (.int (i32 (0))) := eL466 ▸ jg_ne (by decide) gL_2 rfl
      have gL466_3 : jGet L466 3 = some (.int (i32 (w))) := eL466 ▸ jg_ne (by decide) gL_3 rfl
      have gL466_4 : jGet L466 4 = some (.int (i32 (mn))) := eL466 ▸ jg_ne (by decide) gL_4 rfl
      have gL466_5 : jGet L466 5 = some (.int (i32 (le))) := eL466 ▸ jg_ne (by decide) gL_5 rfl
      have gL466_6 : jGet L466 6 = some (.int (i32 (b6))) := eL466 ▸ jg_ne (by decide) gL_6 rfl
      have gL466_8 : jGet L466 8 = some (.int (i32 (c))) := eL466 ▸ jg_ne (by decide) gL_8 rfl
      have gL466_9 : jGet L466 9 = some (.int (i32 (i))) := eL466 ▸ jg_ne (by decide) gL_9 rfl
      have gL466_7 : jGet L466 7 = some (.int (i32 ((((dp + T0 26 (c).toNat) + T0 27 (c).toNat) + 3)))) := eL466 ▸ jg_eq
      refine jx_ld (pc_q := 192) (l_q := L466) (st_q := [.ref 66]) rfl (jl_aloadn gL466_0) ?_
      refine jx_ld (pc_q := 193) (l_q := L466) (st_q := [.ref 66, .ref 66]) rfl (jl_aloadn gL466_0) ?_
      refine jr_get (pc_q := 196) (i := 86) (v := .ref 123) rfl rfl (by decide) rfl rfl ?_
      refine jx_ld (pc_q := 198) (l_q := L466) (st_q := [.int (i32 (b6)), .ref 123, .ref 66]) rfl (jl_iload gL466_6) ?_
      refine jx_ld (pc_q := 200) (l_q := L466) (st_q := [.int (i32 (i)), .int (i32 (b6)), .ref 123, .ref 66]) rfl (jl_iload gL466_9) ?_
      refine jx_add (pc_q := 201) rfl rfl ?_
      refine jr_ldv (pc_q := 202) (i := 56) (m := 320) (z := (b6 + i)) (y := r417) rfl (by decide) rfl (by decide) (by omega) (by omega) rfl (show A452 56 ((b6 + i)).toNat = r417 from (congrFun ((congrFun eA452 56).trans (uA_ne (by decide))) _).trans (q441)) ?_
      refine jx_vr (pc_q := 205) (as := [.int (i32 (r417))]) (st := []) rfl rfl rfl rfl ⟨rfl, rfl, Nat.le_of_ble_eq_true rfl⟩ rfl rfl (c_place (dd := d) (hd := by omega) (hW := hW453) (to := r417) (st := st1) (e_st := show G415 70 = st1 from ((hF420.1 70 rfl).trans (ex_st1))) (lg := lg1) (e_lg := show G415 79 = lg1 from ((hF420.1 79 rfl).trans (ex_lg1))) (lb := lb2_418) (e_lb := show G415 77 = lb2_418 from (e422))  (h_to := ⟨(Int.le_trans (by decide : (-2147483648 : Int) ≤ -2147483648) b421.1), (Int.le_trans b421.2 (by decide : (2147483647 : Int) ≤ 2147483647))⟩)  (p_0 := by omega) (p_1 := by omega) (p_2 := by omega) (p_3 := by omega)) (fun o V_q hq => ?_)
      obtain ⟨G467, A468, st2_469, lg2_470, lb2_471, rfl, rfl, hW472, hF473, hQ474, e475, e476, e477, p478, p479, p480, p481, p482, p483, p484, p485, -⟩ := hq
      have hF487 := Fr_tr hF454 hF473 (Fr_sub (by decide)) (Fr_sub (by decide))
      have hC488 := Fx_tr hC456 hQ474 (by omega)
      have hAl489 := Fx_f hAl457 hF473 (by decide)
      have hBp490 := Fx_f hBp458 hF473 (by decide)
      have sf491 := FA_fr (hF473.2 51 rfl) sf459
      have sf492 := SA_fr (hF473.2 13 rfl) sf460
      have sf493 : PE 56 (upf La i r417) (b6) ((i + 1)) A468 := PE_fr (hF473.2 56 rfl) sf461
      have sf494 : PE 57 (fL T0 F nw n) (b6) ((i + 1)) A468 := PE_fr (hF473.2 57 rfl) sf462
      have bst2_469 : (-2147483648 : Int) ≤ st2_469 ∧ st2_469 ≤ 2147483647 := e475 ▸ hW472.1 70
      have blg2_470 : (0 : Int) ≤ lg2_470 ∧ lg2_470 ≤ 1 := e476 ▸ hW472.1 79
      have blb2_471 : (-2147483648 : Int) ≤ lb2_471 ∧ lb2_471 ≤ 2147483647 := e477 ▸ hW472.1 77
      refine .inl ⟨rfl, ?_⟩
      have sf495 : Cd (lg2_470 = 0 ∧ lb2_471 < 19999) (gP1 T0 A468 (La) (n) ((i).toNat) (le) (st) (st1) (lb + 1) (lb1)) := Cd_mk (fun hC => gP1_mv (Cg_fx (l0 := lb + 1) (l1 := lb1) hQ474 (Cd_ap p484 (by omega)) (by omega)) (by omega) (Cd_ap sf463 (by omega)))
      have hBo496 : Cd (lg2_470 = 0 ∧ lb2_471 < 19999) (Fx [50] (lb + 1) A A468) := Cd_mk (fun hC => Fx_tr (Cd_ap hBo464 (by omega)) (Cd_ap p484 (by omega)) (by omega))
      refine jx_ld (pc_q := 206) (l_q := L466) (st_q := [.ref 66]) rfl (jl_aloadn gL466_0) ?_
      refine jx_ar (pc_q := 207) (st_q := [.int (i32 (1)), .ref 66]) rfl rfl rfl rfl ?_
      refine jx_ld (pc_q := 208) (l_q := L466) (st_q := [.ref 66, .int (i32 (1)), .ref 66]) rfl (jl_aloadn gL466_0) ?_
      refine jr_get (pc_q := 211) (i := 87) (v := .ref 124) rfl rfl (by decide) rfl rfl ?_
      refine jx_ld (pc_q := 213) (l_q := L466) (st_q := [.int (i32 (b6)), .ref 124, .int (i32 (1)), .ref 66]) rfl (jl_iload gL466_6) ?_
      refine jx_ld (pc_q := 215) (l_q := L466) (st_q := [.int (i32 (i)), .int (i32 (b6)), .ref 124, .int (i32 (1)), .ref 66]) rfl (jl_iload gL466_9) ?_
      refine jx_add (pc_q := 216) rfl rfl ?_
      refine jr_ldv (pc_q := 217) (i := 57) (m := 320) (z := (b6 + i)) (y := ((fw1 - dp) - T0 26 (c).toNat)) rfl (by decide) rfl (by decide) (by omega) (by omega) rfl (show A468 57 ((b6 + i)).toNat = ((fw1 - dp) - T0 26 (c).toNat) from (congrFun (hF473.2 57 rfl) _).trans (q455)) ?_
      refine jx_ld (pc_q := 218) (l_q := L466) (st_q := [.ref 66, .int (i32 (((fw1 - dp) - T0 26 (c).toNat))), .int (i32 (1)), .ref 66]) rfl (jl_aloadn gL466_0) ?_
      refine jr_get (pc_q := 221) (i := 80) (v := .ref 118) rfl rfl (by decide) rfl rfl ?_
      refine jx_ld (pc_q := 222) (l_q := L466) (st_q := [.ref 66, .ref 118, .int (i32 (((fw1 - dp) - T0 26 (c).toNat))), .int (i32 (1)), .ref 66]) rfl (jl_aloadn gL466_0) ?_
      refine jr_get (pc_q := 225) (i := 81) (v := .int (i32 (nw))) rfl rfl (by decide) (rFv_eq (by decide) (show G467 81 = nw from ((hF473.1 81 rfl).trans ((hF420.1 81 rfl).trans (fx_81))))) rfl ?_
      refine jr_ldv (pc_q := 226) (i := 51) (m := 40) (z := nw) (y := fw1) rfl (by decide) rfl (by decide) (by omega) (by omega) rfl (show A468 51 (nw).toNat = fw1 from (congrFun ((hF473.2 51 rfl).trans (((congrFun eA452 51).trans (uA_ne (by decide))).trans (((congrFun eA438 51).trans (uA_ne (by decide))).trans (hF420.2 51 rfl)))) _).trans (ex_fw1)) ?_
      refine jx_sub (pc_q := 227) rfl rfl ?_
      refine jx_vr (pc_q := 230) (as := [.int (i32 (1)), .int (i32 ((((fw1 - dp) - T0 26 (c).toNat) - fw1)))]) (st := []) rfl rfl rfl rfl ⟨rfl, rfl, Nat.le_of_ble_eq_true rfl⟩ rfl rfl (c_emit (dd := d) (hd := by omega) (hW := hW472) (fn := 1) (v := (((fw1 - dp) - T0 26 (c).toNat) - fw1)) (st := st2_469) (e_st := show G467 70 = st2_469 from (e475)) (lg := lg2_470) (e_lg := show G467 79 = lg2_470 from (e476))  (h_fn := ⟨(by decide), (by decide)⟩) (h_v := ⟨(by omega), (by omega)⟩)  (p_0 := by omega) (p_1 := by omega)) (fun o V_q hq => ?_)
      obtain ⟨G497, A498, st2_499, lg2_500, rfl, rfl, hW501, hF502, hQ503, e504, e505, p506, p507, p508, p509, p510, p511, -⟩ := hq
      have hF513 := Fr_tr hF487 hF502 (Fr_sub (by decide)) (Fr_sub (by decide))
      have hC514 := Fx_tr hC488 hQ503 (by omega)
      have hAl515 := Fx_f hAl489 hF502 (by decide)
      have hBp516 := Fx_f hBp490 hF502 (by decide)
      have sf517 := FA_fr (hF502.2 51 rfl) sf491
      have sf518 := SA_fr (hF502.2 13 rfl) sf492
      have sf519 : PE 56 (upf La i r417) (b6) ((i + 1)) A498 := PE_fr (hF502.2 56 rfl) sf493
      have sf520 : PE 57 (fL T0 F nw n) (b6) ((i + 1)) A498 := PE_fr (hF502.2 57 rfl) sf494
      have bst2_499 : (-2147483648 : Int) ≤ st2_499 ∧ st2_499 ≤ 2147483647 := e504 ▸ hW501.1 70
      have blg2_500 : (0 : Int) ≤ lg2_500 ∧ lg2_500 ≤ 1 := e505 ▸ hW501.1 79
      refine .inl ⟨rfl, ?_⟩
      have sf521 : Cd (lg2_500 = 0 ∧ lb2_471 < 19999) (gP1 T0 A498 (La) (n) ((i).toNat) (le) (st) (st1) (lb + 1) (lb1)) := Cd_mk (fun hC => gP1_mv (Cg_fx (l0 := lb + 1) (l1 := lb1) hQ503 (Fx_f (w := lb1 + 1) Fx_rf hF502 (by decide)) (by omega)) (by omega) (Cd_ap sf495 (by omega)))
      have sf522 : Cd (lg2_500 = 0 ∧ lb2_471 < 19999) (PL A498 (st1) (st2_469) (r417) (lb2_418) (lb2_471)) := Cd_mk (fun hC => PL_mv (Cg_fx (l0 := lb2_418) (l1 := lb2_471) hQ503 (Fx_f (w := lb2_471 + 1) Fx_rf hF502 (by decide)) (by omega)) (by omega) (Cd_ap p485 (by omega)))
      have hBo523 : Cd (lg2_500 = 0 ∧ lb2_471 < 19999) (Fx [50] (lb + 1) A A498) := Cd_mk (fun hC => Fx_f (Cd_ap hBo496 (by omega)) hF502 (by decide))
      refine jx_ld (pc_q := 231) (l_q := L466) (st_q := [.ref 66]) rfl (jl_aloadn gL466_0) ?_
      refine jx_ld (pc_q := 233) (l_q := L466) (st_q := [.int (i32 (i)), .ref 66]) rfl (jl_iload gL466_9) ?_
      refine jx_if_ne (pc_q := 236) (tg := 255) rfl rfl rfl (Int.le_trans (by decide : (-2147483648 : Int) ≤ -2147483648) rx_i.1) (Int.le_trans rx_i.2 (by decide : (2147483647 : Int) ≤ 2147483647)) (fun h524 => ?_) (fun h524 => ?_)
      · have _q := h524
        refine jx_ar (pc_q := 257) (st_q := [.int (i32 (15)), .ref 66]) rfl rfl rfl rfl ?_
        refine jx_vr (pc_q := 260) (as := [.int (i32 (15))]) (st := []) rfl rfl rfl rfl ⟨rfl, rfl, Nat.le_of_ble_eq_true rfl⟩ rfl rfl (c_op (dd := d) (hd := by omega) (hW := hW501) (oo := 15) (st := st2_499) (e_st := show G497 70 = st2_499 from (e504)) (lg := lg2_500) (e_lg := show G497 79 = lg2_500 from (e505))  (h_oo := ⟨(by decide), (by decide)⟩)  (p_0 := by omega) (p_1 := by omega)) (fun o V_q hq => ?_)
        obtain ⟨G525, A526, st2_527, lg2_528, rfl, rfl, hW529, hF530, hQ531, e532, e533, p534, p535, p536, p537, p538, p539, -⟩ := hq
        have hF541 := Fr_tr hF513 hF530 (Fr_sub (by decide)) (Fr_sub (by decide))
        have hC542 := Fx_tr hC514 hQ531 (by omega)
        have hAl543 := Fx_f hAl515 hF530 (by decide)
        have hBp544 := Fx_f hBp516 hF530 (by decide)
        have sf545 := FA_fr (hF530.2 51 rfl) sf517
        have sf546 := SA_fr (hF530.2 13 rfl) sf518
        have sf547 : PE 56 (upf La i r417) (b6) ((i + 1)) A526 := PE_fr (hF530.2 56 rfl) sf519
        have sf548 : PE 57 (fL T0 F nw n) (b6) ((i + 1)) A526 := PE_fr (hF530.2 57 rfl) sf520
        have bst2_527 : (-2147483648 : Int) ≤ st2_527 ∧ st2_527 ≤ 2147483647 := e532 ▸ hW529.1 70
        have blg2_528 : (0 : Int) ≤ lg2_528 ∧ lg2_528 ≤ 1 := e533 ▸ hW529.1 79
        refine .inl ⟨rfl, ?_⟩
        have sf549 : Cd (lg2_528 = 0 ∧ lb2_471 < 19999) (gP1 T0 A526 (La) (n) ((i).toNat) (le) (st) (st1) (lb + 1) (lb1)) := Cd_mk (fun hC => gP1_mv (Cg_fx (l0 := lb + 1) (l1 := lb1) hQ531 (Fx_f (w := lb1 + 1) Fx_rf hF530 (by decide)) (by omega)) (by omega) (Cd_ap sf521 (by omega)))
        have sf550 : Cd (lg2_528 = 0 ∧ lb2_471 < 19999) (PL A526 (st1) (st2_469) (r417) (lb2_418) (lb2_471)) := Cd_mk (fun hC => PL_mv (Cg_fx (l0 := lb2_418) (l1 := lb2_471) hQ531 (Fx_f (w := lb2_471 + 1) Fx_rf hF530 (by decide)) (by omega)) (by omega) (Cd_ap sf522 (by omega)))
        have sf551 : Cd (lg2_528 = 0 ∧ lb2_471 < 19999) (ST A526 (st2_469) (st2_499) (1) (((fw1 - dp) - T0 26 (c).toNat) - fw1)) := Cd_mk (fun hC => ST_mv (Cg_fx (l0 := 0) (l1 := 0) hQ531 (Fx_f (w := 0 + 1) Fx_rf hF530 (by decide)) (by omega)) (by omega) (Cd_ap p511 (by omega)))
        have hBo552 : Cd (lg2_528 = 0 ∧ lb2_471 < 19999) (Fx [50] (lb + 1) A A526) := Cd_mk (fun hC => Fx_f (Cd_ap hBo523 (by omega)) hF530 (by decide))
        refine jx_ld (pc_q := 261) (l_q := L466) (st_q := [.int (i32 (0))]) rfl (jl_iloadn gL466_2) ?_
        refine jx_if_eq (pc_q := 264) (tg := 269) rfl rfl rfl (by decide) (by decide) (fun h553 => ?_) (fun h553 => ?_)
        · have _q := h553
          refine jx_ld (pc_q := 270) (l_q := L466) (st_q := [.ref 66]) rfl (jl_aloadn gL466_0) ?_
          refine jr_get (pc_q := 273) (i := 39) (v := .ref 89) rfl rfl (by decide) rfl rfl ?_
          refine jx_ld (pc_q := 275) (l_q := L466) (st_q := [.int (i32 (c)), .ref 89]) rfl (jl_iload gL466_8) ?_
          have b554 : (-2147483648 : Int) ≤ T0 22 (c).toNat ∧ T0 22 (c).toNat ≤ 2147483647 := hWT.2 22 _
          refine jr_ldv (pc_q := 276) (i := 22) (m := 7000) (z := c) (y := T0 22 (c).toNat) rfl (by decide) rfl (by decide) (by omega) (by omega) rfl (show A526 22 (c).toNat = T0 22 (c).toNat from (congrFun ((hF530.2 22 rfl).trans ((hF502.2 22 rfl).trans ((hF473.2 22 rfl).trans (((congrFun eA452 22).trans (uA_ne (by decide))).trans (((congrFun eA438 22).trans (uA_ne (by decide))).trans ((hF420.2 22 rfl).trans ((hFx.2 22 rfl).trans (p_0 22 rfl)))))))) _)) ?_
          refine jx_ld (pc_q := 278) (l_q := jSto1 L466 8 (.int (i32 (T0 22 (c).toNat)))) (st_q := []) rfl rfl ?_
          obtain ⟨L555, eL555⟩ : ∃ q, q = jSto1 L466 8 (.int (i32 (T0 22 (c).toNat))) := ⟨_, rfl⟩
          rw [← eL555]
          have gL555_0 : jGet L555 0 = some (.ref 66) := eL555 ▸ jg_ne (by decide) gL466_0 rfl
          have gL555_1 : jGet L555 1 = some (.int (i32 (n))) := eL555 ▸ jg_ne (by decide) gL466_1 rfl
          have gL555_2 : jGet L555 2 = some (.int (i32 (0))) := eL555 ▸ jg_ne (by decide) gL466_2 rfl
          have gL555_3 : jGet L555 3 = some (.int (i32 (w))) := eL555 ▸ jg_ne (by decide) gL466_3 rfl
          have gL555_4 : jGet L555 4 = some (.int (i32 (mn))) := eL555 ▸ jg_ne (by decide) gL466_4 rfl
          have gL555_5 : jGet L555 5 = some (.int (i32 (le))) := eL555 ▸ jg_ne (by decide) gL466_5 rfl
          have gL555_6 : jGet L555 6 = some (.int (i32 (b6))) := eL555 ▸ jg_ne (by decide) gL466_6 rfl
          have gL555_9 : jGet L555 9 = some (.int (i32 (i))) := eL555 ▸ jg_ne (by decide) gL466_9 rfl
          have gL555_7 : jGet L555 7 = some (.int (i32 ((((dp + T0 26 (c).toNat) + T0 27 (c).toNat) + 3)))) := eL555 ▸ jg_ne (by decide) gL466_7 rfl
          have gL555_8 : jGet L555 8 = some (.int (i32 (T0 22 (c).toNat))) := eL555 ▸ jg_eq
          refine jx_inc (pc_q := 281) (l_q := jSto1 L555 9 (.int (i32 ((i + (1)))))) (x := i) rfl gL555_9 (by decide) rfl rfl ?_
          obtain ⟨L556, eL556⟩ : ∃ q, q = jSto1 L555 9 (.int (i32 ((i + (1))))) := ⟨_, rfl⟩
          rw [← eL556]
          have gL556_0 : jGet L556 0 = some (.ref 66) := eL556 ▸ jg_ne (by decide) gL555_0 rfl
          have gL556_1 : jGet L556 1 = some (.int (i32 (n))) := eL556 ▸ jg_ne (by decide) gL555_1 rfl
          have gL556_2 : jGet L556 2 = some (.int (i32 (0))) := eL556 ▸ jg_ne (by decide) gL555_2 rfl
          have gL556_3 : jGet L556 3 = some (.int (i32 (w))) := eL556 ▸ jg_ne (by decide) gL555_3 rfl
          have gL556_4 : jGet L556 4 = some (.int (i32 (mn))) := eL556 ▸ jg_ne (by decide) gL555_4 rfl
          have gL556_5 : jGet L556 5 = some (.int (i32 (le))) := eL556 ▸ jg_ne (by decide) gL555_5 rfl
          have gL556_6 : jGet L556 6 = some (.int (i32 (b6))) := eL556 ▸ jg_ne (by decide) gL555_6 rfl
          have gL556_7 : jGet L556 7 = some (.int (i32 ((((dp + T0 26 (c).toNat) + T0 27 (c).toNat) + 3)))) := eL556 ▸ jg_ne (by decide) gL555_7 rfl
          have gL556_8 : jGet L556 8 = some (.int (i32 (T0 22 (c).toNat))) := eL556 ▸ jg_ne (by decide) gL555_8 rfl
          have gL556_9 : jGet L556 9 = some (.int (i32 ((i + (1))))) := eL556 ▸ jg_eq
          refine jx_go (tg := 118) rfl rfl ?_
          exact ih118_0 _ (by omega) L556 G525 A526 (w) (mn) (le) (b6) ((((dp + T0 26 (c).toNat) + T0 27 (c).toNat) + 3)) (T0 22 (c).toNat) ((i + (1))) (st2_527) (lg2_528) (lb2_471) (fw1) ((upf La i r417)) rfl gL556_0 gL556_1 gL556_2 gL556_3 gL556_4 gL556_5 gL556_6 gL556_7 gL556_8 gL556_9 hW529 hF541 hC542 hAl543 hBp544 (Cd_mk (fun hC => Cd_ap hBo552 (by omega))) ((e532)) ((e533)) (((hF530.1 77 rfl).trans ((hF502.1 77 rfl).trans (e477)))) ((congrFun ((hF530.2 51 rfl).trans ((hF502.2 51 rfl).trans ((hF473.2 51 rfl).trans (((congrFun eA452 51).trans (uA_ne (by decide))).trans (((congrFun eA438 51).trans (uA_ne (by decide))).trans (hF420.2 51 rfl)))))) _).trans (ex_fw1)) (((hF530.1 81 rfl).trans ((hF502.1 81 rfl).trans ((hF473.1 81 rfl).trans ((hF420.1 81 rfl).trans (fx_81)))))) (((hF530.1 89 rfl).trans ((hF502.1 89 rfl).trans ((hF473.1 89 rfl).trans ((hF420.1 89 rfl).trans (fx_89)))))) (by omega) (by omega) (by omega) (by omega) (by omega) (by omega) (by omega) (by omega) (by omega) (by omega) (by omega) (by omega) ((Cd_mk (fun hC => by have := Cd_ap iv_5 (by omega); omega))) (by omega) (by omega) (by omega) (by omega) (by omega) (by omega) (by omega) (by omega) (by omega) (by omega) (by omega) ((Cd_mk (fun hC => (by have hr := Cd_ap iv_17 (by omega); omega)))) (by omega) (sf545) (sf546) ((PE_i (by omega) sf547)) ((PE_i (by omega) sf548)) ((LBd_nx iv_23 (by omega) (by omega) (by omega))) ((Cd_mk (fun hC => (gP1_nx (by omega) (Cd_ap sf549 (by omega)) (by have hr := Cd_ap p426 (by omega); omega) (by omega) (PL_su (Cd_ap sf550 (by omega)) (by omega) (by omega)) (Cd_ap sf551 (by omega)) (Cd_ap p539 (by omega)) (by omega) (by unfold pri; first | exact (if_pos (by omega)).symm | exact (if_neg (by omega)).symm)))))
        · have _q := h553
          exact absurd h553 (by omega)
      · have _q := h524
        refine jx_ld (pc_q := 237) (l_q := L466) (st_q := [.int (i32 (0)), .ref 66]) rfl (jl_iloadn gL466_2) ?_
        refine jx_if_ne (pc_q := 240) (tg := 255) rfl rfl rfl (by decide) (by decide) (fun h557 => ?_) (fun h557 => ?_)
        · have _q := h557
          exact absurd h557 (by omega)
        · have _q := h557
          refine jx_ld (pc_q := 241) (l_q := L466) (st_q := [.ref 66, .ref 66]) rfl (jl_aloadn gL466_0) ?_
          refine jr_get (pc_q := 244) (i := 34) (v := .ref 84) rfl rfl (by decide) rfl rfl ?_
          refine jx_ld (pc_q := 245) (l_q := L466) (st_q := [.int (i32 (n)), .ref 84, .ref 66]) rfl (jl_iloadn gL466_1) ?_
          have b558 : (-2147483648 : Int) ≤ T0 17 (n).toNat ∧ T0 17 (n).toNat ≤ 2147483647 := hWT.2 17 _
          refine jr_ldv (pc_q := 246) (i := 17) (m := 7000) (z := n) (y := T0 17 (n).toNat) rfl (by decide) rfl (by decide) (by omega) (by omega) rfl (show A498 17 (n).toNat = T0 17 (n).toNat from (congrFun ((hF502.2 17 rfl).trans ((hF473.2 17 rfl).trans (((congrFun eA452 17).trans (uA_ne (by decide))).trans (((congrFun eA438 17).trans (uA_ne (by decide))).trans ((hF420.2 17 rfl).trans ((hFx.2 17 rfl).trans (p_0 17 rfl))))))) _)) ?_
          refine jx_ar (pc_q := 247) (st_q := [.int (i32 (1)), .int (i32 (T0 17 (n).toNat)), .ref 66]) rfl rfl rfl rfl ?_
          refine jx_icmp_ne (pc_q := 250) (tg := 255) rfl rfl rfl (Int.le_trans (by decide : (-2147483648 : Int) ≤ -2147483648) b558.1) (Int.le_trans b558.2 (by decide : (2147483647 : Int) ≤ 2147483647)) (by decide) (by decide) (fun h559 => ?_) (fun h559 => ?_)
          · have _q := h559
            refine jx_ar (pc_q := 257) (st_q := [.int (i32 (15)), .ref 66]) rfl rfl rfl rfl ?_
            refine jx_vr (pc_q := 260) (as := [.int (i32 (15))]) (st := []) rfl rfl rfl rfl ⟨rfl, rfl, Nat.le_of_ble_eq_true rfl⟩ rfl rfl (c_op (dd := d) (hd := by omega) (hW := hW501) (oo := 15) (st := st2_499) (e_st := show G497 70 = st2_499 from (e504)) (lg := lg2_500) (e_lg := show G497 79 = lg2_500 from (e505))  (h_oo := ⟨(by decide), (by decide)⟩)  (p_0 := by omega) (p_1 := by omega)) (fun o V_q hq => ?_)
            obtain ⟨G560, A561, st2_562, lg2_563, rfl, rfl, hW564, hF565, hQ566, e567, e568, p569, p570, p571, p572, p573, p574, -⟩ := hq
            have hF576 := Fr_tr hF513 hF565 (Fr_sub (by decide)) (Fr_sub (by decide))
            have hC577 := Fx_tr hC514 hQ566 (by omega)
            have hAl578 := Fx_f hAl515 hF565 (by decide)
            have hBp579 := Fx_f hBp516 hF565 (by decide)
            have sf580 := FA_fr (hF565.2 51 rfl) sf517
            have sf581 := SA_fr (hF565.2 13 rfl) sf518
            have sf582 : PE 56 (upf La i r417) (b6) ((i + 1)) A561 := PE_fr (hF565.2 56 rfl) sf519
            have sf583 : PE 57 (fL T0 F nw n) (b6) ((i + 1)) A561 := PE_fr (hF565.2 57 rfl) sf520
            have bst2_562 : (-2147483648 : Int) ≤ st2_562 ∧ st2_562 ≤ 2147483647 := e567 ▸ hW564.1 70
            have blg2_563 : (0 : Int) ≤ lg2_563 ∧ lg2_563 ≤ 1 := e568 ▸ hW564.1 79
            refine .inl ⟨rfl, ?_⟩
            have sf584 : Cd (lg2_563 = 0 ∧ lb2_471 < 19999) (gP1 T0 A561 (La) (n) ((i).toNat) (le) (st) (st1) (lb + 1) (lb1)) := Cd_mk (fun hC => gP1_mv (Cg_fx (l0 := lb + 1) (l1 := lb1) hQ566 (Fx_f (w := lb1 + 1) Fx_rf hF565 (by decide)) (by omega)) (by omega) (Cd_ap sf521 (by omega)))
            have sf585 : Cd (lg2_563 = 0 ∧ lb2_471 < 19999) (PL A561 (st1) (st2_469) (r417) (lb2_418) (lb2_471)) := Cd_mk (fun hC => PL_mv (Cg_fx (l0 := lb2_418) (l1 := lb2_471) hQ566 (Fx_f (w := lb2_471 + 1) Fx_rf hF565 (by decide)) (by omega)) (by omega) (Cd_ap sf522 (by omega)))
            have sf586 : Cd (lg2_563 = 0 ∧ lb2_471 < 19999) (ST A561 (st2_469) (st2_499) (1) (((fw1 - dp) - T0 26 (c).toNat) - fw1)) := Cd_mk (fun hC => ST_mv (Cg_fx (l0 := 0) (l1 := 0) hQ566 (Fx_f (w := 0 + 1) Fx_rf hF565 (by decide)) (by omega)) (by omega) (Cd_ap p511 (by omega)))
            have hBo587 : Cd (lg2_563 = 0 ∧ lb2_471 < 19999) (Fx [50] (lb + 1) A A561) := Cd_mk (fun hC => Fx_f (Cd_ap hBo523 (by omega)) hF565 (by decide))
            refine jx_ld (pc_q := 261) (l_q := L466) (st_q := [.int (i32 (0))]) rfl (jl_iloadn gL466_2) ?_
            refine jx_if_eq (pc_q := 264) (tg := 269) rfl rfl rfl (by decide) (by decide) (fun h588 => ?_) (fun h588 => ?_)
            · have _q := h588
              refine jx_ld (pc_q := 270) (l_q := L466) (st_q := [.ref 66]) rfl (jl_aloadn gL466_0) ?_
              refine jr_get (pc_q := 273) (i := 39) (v := .ref 89) rfl rfl (by decide) rfl rfl ?_
              refine jx_ld (pc_q := 275) (l_q := L466) (st_q := [.int (i32 (c)), .ref 89]) rfl (jl_iload gL466_8) ?_
              have b589 : (-2147483648 : Int) ≤ T0 22 (c).toNat ∧ T0 22 (c).toNat ≤ 2147483647 := hWT.2 22 _
              refine jr_ldv (pc_q := 276) (i := 22) (m := 7000) (z := c) (y := T0 22 (c).toNat) rfl (by decide) rfl (by decide) (by omega) (by omega) rfl (show A561 22 (c).toNat = T0 22 (c).toNat from (congrFun ((hF565.2 22 rfl).trans ((hF502.2 22 rfl).trans ((hF473.2 22 rfl).trans (((congrFun eA452 22).trans (uA_ne (by decide))).trans (((congrFun eA438 22).trans (uA_ne (by decide))).trans ((hF420.2 22 rfl).trans ((hFx.2 22 rfl).trans (p_0 22 rfl)))))))) _)) ?_
              refine jx_ld (pc_q := 278) (l_q := jSto1 L466 8 (.int (i32 (T0 22 (c).toNat)))) (st_q := []) rfl rfl ?_
              obtain ⟨L590, eL590⟩ : ∃ q, q = jSto1 L466 8 (.int (i32 (T0 22 (c).toNat))) := ⟨_, rfl⟩
              rw [← eL590]
              have gL590_0 : jGet L590 0 = some (.ref 66) := eL590 ▸ jg_ne (by decide) gL466_0 rfl
              have gL590_1 : jGet L590 1 = some (.int (i32 (n))) := eL590 ▸ jg_ne (by decide) gL466_1 rfl
              have gL590_2 : jGet L590 2 = some (.int (i32 (0))) := eL590 ▸ jg_ne (by decide) gL466_2 rfl
              have gL590_3 : jGet L590 3 = some (.int (i32 (w))) := eL590 ▸ jg_ne (by decide) gL466_3 rfl
              have gL590_4 : jGet L590 4 = some (.int (i32 (mn))) := eL590 ▸ jg_ne (by decide) gL466_4 rfl
              have gL590_5 : jGet L590 5 = some (.int (i32 (le))) := eL590 ▸ jg_ne (by decide) gL466_5 rfl
              have gL590_6 : jGet L590 6 = some (.int (i32 (b6))) := eL590 ▸ jg_ne (by decide) gL466_6 rfl
              have gL590_9 : jGet L590 9 = some (.int (i32 (i))) := eL590 ▸ jg_ne (by decide) gL466_9 rfl
              have gL590_7 : jGet L590 7 = some (.int (i32 ((((dp + T0 26 (c).toNat) + T0 27 (c).toNat) + 3)))) := eL590 ▸ jg_ne (by decide) gL466_7 rfl
              have gL590_8 : jGet L590 8 = some (.int (i32 (T0 22 (c).toNat))) := eL590 ▸ jg_eq
              refine jx_inc (pc_q := 281) (l_q := jSto1 L590 9 (.int (i32 ((i + (1)))))) (x := i) rfl gL590_9 (by decide) rfl rfl ?_
              obtain ⟨L591, eL591⟩ : ∃ q, q = jSto1 L590 9 (.int (i32 ((i + (1))))) := ⟨_, rfl⟩
              rw [← eL591]
              have gL591_0 : jGet L591 0 = some (.ref 66) := eL591 ▸ jg_ne (by decide) gL590_0 rfl
              have gL591_1 : jGet L591 1 = some (.int (i32 (n))) := eL591 ▸ jg_ne (by decide) gL590_1 rfl
              have gL591_2 : jGet L591 2 = some (.int (i32 (0))) := eL591 ▸ jg_ne (by decide) gL590_2 rfl
              have gL591_3 : jGet L591 3 = some (.int (i32 (w))) := eL591 ▸ jg_ne (by decide) gL590_3 rfl
              have gL591_4 : jGet L591 4 = some (.int (i32 (mn))) := eL591 ▸ jg_ne (by decide) gL590_4 rfl
              have gL591_5 : jGet L591 5 = some (.int (i32 (le))) := eL591 ▸ jg_ne (by decide) gL590_5 rfl
              have gL591_6 : jGet L591 6 = some (.int (i32 (b6))) := eL591 ▸ jg_ne (by decide) gL590_6 rfl
              have gL591_7 : jGet L591 7 = some (.int (i32 ((((dp + T0 26 (c).toNat) + T0 27 (c).toNat) + 3)))) := eL591 ▸ jg_ne (by decide) gL590_7 rfl
              have gL591_8 : jGet L591 8 = some (.int (i32 (T0 22 (c).toNat))) := eL591 ▸ jg_ne (by decide) gL590_8 rfl
              have gL591_9 : jGet L591 9 = some (.int (i32 ((i + (1))))) := eL591 ▸ jg_eq
              refine jx_go (tg := 118) rfl rfl ?_
              exact ih118_0 _ (by omega) L591 G560 A561 (w) (mn) (le) (b6) ((((dp + T0 26 (c).toNat) + T0 27 (c).toNat) + 3)) (T0 22 (c).toNat) ((i + (1))) (st2_562) (lg2_563) (lb2_471) (fw1) ((upf La i r417)) rfl gL591_0 gL591_1 gL591_2 gL591_3 gL591_4 gL591_5 gL591_6 gL591_7 gL591_8 gL591_9 hW564 hF576 hC577 hAl578 hBp579 (Cd_mk (fun hC => Cd_ap hBo587 (by omega))) ((e567)) ((e568)) (((hF565.1 77 rfl).trans ((hF502.1 77 rfl).trans (e477)))) ((congrFun ((hF565.2 51 rfl).trans ((hF502.2 51 rfl).trans ((hF473.2 51 rfl).trans (((congrFun eA452 51).trans (uA_ne (by decide))).trans (((congrFun eA438 51).trans (uA_ne (by decide))).trans (hF420.2 51 rfl)))))) _).trans (ex_fw1)) (((hF565.1 81 rfl).trans ((hF502.1 81 rfl).trans ((hF473.1 81 rfl).trans ((hF420.1 81 rfl).trans (fx_81)))))) (((hF565.1 89 rfl).trans ((hF502.1 89 rfl).trans ((hF473.1 89 rfl).trans ((hF420.1 89 rfl).trans (fx_89)))))) (by omega) (by omega) (by omega) (by omega) (by omega) (by omega) (by omega) (by omega) (by omega) (by omega) (by omega) (by omega) ((Cd_mk (fun hC => by have := Cd_ap iv_5 (by omega); omega))) (by omega) (by omega) (by omega) (by omega) (by omega) (by omega) (by omega) (by omega) (by omega) (by omega) (by omega) ((Cd_mk (fun hC => (by have hr := Cd_ap iv_17 (by omega); omega)))) (by omega) (sf580) (sf581) ((PE_i (by omega) sf582)) ((PE_i (by omega) sf583)) ((LBd_nx iv_23 (by omega) (by omega) (by omega))) ((Cd_mk (fun hC => (gP1_nx (by omega) (Cd_ap sf584 (by omega)) (by have hr := Cd_ap p426 (by omega); omega) (by omega) (PL_su (Cd_ap sf585 (by omega)) (by omega) (by omega)) (Cd_ap sf586 (by omega)) (Cd_ap p574 (by omega)) (by omega) (by unfold pri; first | exact (if_pos (by omega)).symm | exact (if_neg (by omega)).symm)))))
            · have _q := h588
              exact absurd h588 (by omega)
          · have _q := h559
            refine jx_ar (pc_q := 252) (st_q := [.int (i32 (16)), .ref 66]) rfl rfl rfl rfl ?_
            refine jx_go (tg := 257) rfl rfl ?_
            refine jx_vr (pc_q := 260) (as := [.int (i32 (16))]) (st := []) rfl rfl rfl rfl ⟨rfl, rfl, Nat.le_of_ble_eq_true rfl⟩ rfl rfl (c_op (dd := d) (hd := by omega) (hW := hW501) (oo := 16) (st := st2_499) (e_st := show G497 70 = st2_499 from (e504)) (lg := lg2_500) (e_lg := show G497 79 = lg2_500 from (e505))  (h_oo := ⟨(by decide), (by decide)⟩)  (p_0 := by omega) (p_1 := by omega)) (fun o V_q hq => ?_)
            obtain ⟨G592, A593, st2_594, lg2_595, rfl, rfl, hW596, hF597, hQ598, e599, e600, p601, p602, p603, p604, p605, p606, -⟩ := hq
            have hF608 := Fr_tr hF513 hF597 (Fr_sub (by decide)) (Fr_sub (by decide))
            have hC609 := Fx_tr hC514 hQ598 (by omega)
            have hAl610 := Fx_f hAl515 hF597 (by decide)
            have hBp611 := Fx_f hBp516 hF597 (by decide)
            have sf612 := FA_fr (hF597.2 51 rfl) sf517
            have sf613 := SA_fr (hF597.2 13 rfl) sf518
            have sf614 : PE 56 (upf La i r417) (b6) ((i + 1)) A593 := PE_fr (hF597.2 56 rfl) sf519
            have sf615 : PE 57 (fL T0 F nw n) (b6) ((i + 1)) A593 := PE_fr (hF597.2 57 rfl) sf520
            have bst2_594 : (-2147483648 : Int) ≤ st2_594 ∧ st2_594 ≤ 2147483647 := e599 ▸ hW596.1 70
            have blg2_595 : (0 : Int) ≤ lg2_595 ∧ lg2_595 ≤ 1 := e600 ▸ hW596.1 79
            refine .inl ⟨rfl, ?_⟩
            have sf616 : Cd (lg2_595 = 0 ∧ lb2_471 < 19999) (gP1 T0 A593 (La) (n) ((i).toNat) (le) (st) (st1) (lb + 1) (lb1)) := Cd_mk (fun hC => gP1_mv (Cg_fx (l0 := lb + 1) (l1 := lb1) hQ598 (Fx_f (w := lb1 + 1) Fx_rf hF597 (by decide)) (by omega)) (by omega) (Cd_ap sf521 (by omega)))
            have sf617 : Cd (lg2_595 = 0 ∧ lb2_471 < 19999) (PL A593 (st1) (st2_469) (r417) (lb2_418) (lb2_471)) := Cd_mk (fun hC => PL_mv (Cg_fx (l0 := lb2_418) (l1 := lb2_471) hQ598 (Fx_f (w := lb2_471 + 1) Fx_rf hF597 (by decide)) (by omega)) (by omega) (Cd_ap sf522 (by omega)))
            have sf618 : Cd (lg2_595 = 0 ∧ lb2_471 < 19999) (ST A593 (st2_469) (st2_499) (1) (((fw1 - dp) - T0 26 (c).toNat) - fw1)) := Cd_mk (fun hC => ST_mv (Cg_fx (l0 := 0) (l1 := 0) hQ598 (Fx_f (w := 0 + 1) Fx_rf hF597 (by decide)) (by omega)) (by omega) (Cd_ap p511 (by omega)))
            have hBo619 : Cd (lg2_595 = 0 ∧ lb2_471 < 19999) (Fx [50] (lb + 1) A A593) := Cd_mk (fun hC => Fx_f (Cd_ap hBo523 (by omega)) hF597 (by decide))
            refine jx_ld (pc_q := 261) (l_q := L466) (st_q := [.int (i32 (0))]) rfl (jl_iloadn gL466_2) ?_
            refine jx_if_eq (pc_q := 264) (tg := 269) rfl rfl rfl (by decide) (by decide) (fun h620 => ?_) (fun h620 => ?_)
            · have _q := h620
              refine jx_ld (pc_q := 270) (l_q := L466) (st_q := [.ref 66]) rfl (jl_aloadn gL466_0) ?_
              refine jr_get (pc_q := 273) (i := 39) (v := .ref 89) rfl rfl (by decide) rfl rfl ?_
              refine jx_ld (pc_q := 275) (l_q := L466) (st_q := [.int (i32 (c)), .ref 89]) rfl (jl_iload gL466_8) ?_
              have b621 : (-2147483648 : Int) ≤ T0 22 (c).toNat ∧ T0 22 (c).toNat ≤ 2147483647 := hWT.2 22 _
              refine jr_ldv (pc_q := 276) (i := 22) (m := 7000) (z := c) (y := T0 22 (c).toNat) rfl (by decide) rfl (by decide) (by omega) (by omega) rfl (show A593 22 (c).toNat = T0 22 (c).toNat from (congrFun ((hF597.2 22 rfl).trans ((hF502.2 22 rfl).trans ((hF473.2 22 rfl).trans (((congrFun eA452 22).trans (uA_ne (by decide))).trans (((congrFun eA438 22).trans (uA_ne (by decide))).trans ((hF420.2 22 rfl).trans ((hFx.2 22 rfl).trans (p_0 22 rfl)))))))) _)) ?_
              refine jx_ld (pc_q := 278) (l_q := jSto1 L466 8 (.int (i32 (T0 22 (c).toNat)))) (st_q := []) rfl rfl ?_
              obtain ⟨L622, eL622⟩ : ∃ q, q = jSto1 L466 8 (.int (i32 (T0 22 (c).toNat))) := ⟨_, rfl⟩
              rw [← eL622]
              have gL622_0 : jGet L622 0 = some (.ref 66) := eL622 ▸ jg_ne (by decide) gL466_0 rfl
              have gL622_1 : jGet L622 1 = some (.int (i32 (n))) := eL622 ▸ jg_ne (by decide) gL466_1 rfl
              have gL622_2 : jGet L622 2 = some (.int (i32 (0))) := eL622 ▸ jg_ne (by decide) gL466_2 rfl
              have gL622_3 : jGet L622 3 = some (.int (i32 (w))) := eL622 ▸ jg_ne (by decide) gL466_3 rfl
              have gL622_4 : jGet L622 4 = some (.int (i32 (mn))) := eL622 ▸ jg_ne (by decide) gL466_4 rfl
              have gL622_5 : jGet L622 5 = some (.int (i32 (le))) := eL622 ▸ jg_ne (by decide) gL466_5 rfl
              have gL622_6 : jGet L622 6 = some (.int (i32 (b6))) := eL622 ▸ jg_ne (by decide) gL466_6 rfl
              have gL622_9 : jGet L622 9 = some (.int (i32 (i))) := eL622 ▸ jg_ne (by decide) gL466_9 rfl
              have gL622_7 : jGet L622 7 = some (.int (i32 ((((dp + T0 26 (c).toNat) + T0 27 (c).toNat) + 3)))) := eL622 ▸ jg_ne (by decide) gL466_7 rfl
              have gL622_8 : jGet L622 8 = some (.int (i32 (T0 22 (c).toNat))) := eL622 ▸ jg_eq
              refine jx_inc (pc_q := 281) (l_q := jSto1 L622 9 (.int (i32 ((i + (1)))))) (x := i) rfl gL622_9 (by decide) rfl rfl ?_
              obtain ⟨L623, eL623⟩ : ∃ q, q = jSto1 L622 9 (.int (i32 ((i + (1))))) := ⟨_, rfl⟩
              rw [← eL623]
              have gL623_0 : jGet L623 0 = some (.ref 66) := eL623 ▸ jg_ne (by decide) gL622_0 rfl
              have gL623_1 : jGet L623 1 = some (.int (i32 (n))) := eL623 ▸ jg_ne (by decide) gL622_1 rfl
              have gL623_2 : jGet L623 2 = some (.int (i32 (0))) := eL623 ▸ jg_ne (by decide) gL622_2 rfl
              have gL623_3 : jGet L623 3 = some (.int (i32 (w))) := eL623 ▸ jg_ne (by decide) gL622_3 rfl
              have gL623_4 : jGet L623 4 = some (.int (i32 (mn))) := eL623 ▸ jg_ne (by decide) gL622_4 rfl
              have gL623_5 : jGet L623 5 = some (.int (i32 (le))) := eL623 ▸ jg_ne (by decide) gL622_5 rfl
              have gL623_6 : jGet L623 6 = some (.int (i32 (b6))) := eL623 ▸ jg_ne (by decide) gL622_6 rfl
              have gL623_7 : jGet L623 7 = some (.int (i32 ((((dp + T0 26 (c).toNat) + T0 27 (c).toNat) + 3)))) := eL623 ▸ jg_ne (by decide) gL622_7 rfl
              have gL623_8 : jGet L623 8 = some (.int (i32 (T0 22 (c).toNat))) := eL623 ▸ jg_ne (by decide) gL622_8 rfl
              have gL623_9 : jGet L623 9 = some (.int (i32 ((i + (1))))) := eL623 ▸ jg_eq
              refine jx_go (tg := 118) rfl rfl ?_
              exact ih118_0 _ (by omega) L623 G592 A593 (w) (mn) (le) (b6) ((((dp + T0 26 (c).toNat) + T0 27 (c).toNat) + 3)) (T0 22 (c).toNat) ((i + (1))) (st2_594) (lg2_595) (lb2_471) (fw1) ((upf La i r417)) rfl gL623_0 gL623_1 gL623_2 gL623_3 gL623_4 gL623_5 gL623_6 gL623_7 gL623_8 gL623_9 hW596 hF608 hC609 hAl610 hBp611 (Cd_mk (fun hC => Cd_ap hBo619 (by omega))) ((e599)) ((e600)) (((hF597.1 77 rfl).trans ((hF502.1 77 rfl).trans (e477)))) ((congrFun ((hF597.2 51 rfl).trans ((hF502.2 51 rfl).trans ((hF473.2 51 rfl).trans (((congrFun eA452 51).trans (uA_ne (by decide))).trans (((congrFun eA438 51).trans (uA_ne (by decide))).trans (hF420.2 51 rfl)))))) _).trans (ex_fw1)) (((hF597.1 81 rfl).trans ((hF502.1 81 rfl).trans ((hF473.1 81 rfl).trans ((hF420.1 81 rfl).trans (fx_81)))))) (((hF597.1 89 rfl).trans ((hF502.1 89 rfl).trans ((hF473.1 89 rfl).trans ((hF420.1 89 rfl).trans (fx_89)))))) (by omega) (by omega) (by omega) (by omega) (by omega) (by omega) (by omega) (by omega) (by omega) (by omega) (by omega) (by omega) ((Cd_mk (fun hC => by have := Cd_ap iv_5 (by omega); omega))) (by omega) (by omega) (by omega) (by omega) (by omega) (by omega) (by omega) (by omega) (by omega) (by omega) (by omega) ((Cd_mk (fun hC => (by have hr := Cd_ap iv_17 (by omega); omega)))) (by omega) (sf612) (sf613) ((PE_i (by omega) sf614)) ((PE_i (by omega) sf615)) ((LBd_nx iv_23 (by omega) (by omega) (by omega))) ((Cd_mk (fun hC => (gP1_nx (by omega) (Cd_ap sf616 (by omega)) (by have hr := Cd_ap p426 (by omega); omega) (by omega) (PL_su (Cd_ap sf617 (by omega)) (by omega) (by omega)) (Cd_ap sf618 (by omega)) (Cd_ap p606 (by omega)) (by omega) (by unfold pri; first | exact (if_pos (by omega)).symm | exact (if_neg (by omega)).symm)))))
            · have _q := h620
              exact absurd h620 (by omega)
set_option maxRecDepth 20000 in
set_option maxHeartbeats 4000000 in
theorem c_genPar_at_118_1 {X : jX} {k : Nat} (hN : GN X k) {d : Nat} {T0 : Nat → Nat → Int} {Q F Sn : Int → Int} {Vs : Nat → Prop} {sb pb : Int} {c0 c1 : jC} {G : Nat → Int} {A : Nat → Nat → Int} {T : jH} {n : Int} {hi s0 s1 D bd : Int} {st lg lb nw al fw : Int} (hd : 2 * k + 63 ≤ d + 1) (hW : Wk G A) (e_st : G 70 = st) (e_lg : G 79 = lg) (e_lb : G 77 = lb) (e_nw : G 81 = nw) (e_al : G 89 = al) (e_fw : A 51 (nw).toNat = fw) (h_n : (-2147483648 : Int) ≤ n ∧ n ≤ 2147483647) (p_0 : TA T0 A) (p_1 : FA F (nw) A) (p_2 : SA T0 Vs Sn A) (p_3 : VW T0 Vs (nw)) (p_4 : 0 ≤ nw) (p_5 : nw + (k : Int) + 1 ≤ 38) (p_6 : 0 ≤ al) (p_7 : al + (k : Int) + 1 ≤ 38) (p_8 : 0 ≤ st) (p_9 : st ≤ 7000) (p_10 : 0 ≤ lb) (p_11 : lb + bd + 7000 - st ≤ 1900000000) (p_12 : hi ≤ 6999) (p_13 : sb ≤ 202) (p_14 : 0 ≤ n) (p_15 : n < hi) (p_16 : 0 ≤ s0) (p_17 : s1 ≤ sb) (p_18 : KD T0 sb pb k Vs (n) (hi) (s0) (s1) (nw) (D)) (p_19 : VB (Vs) (s0)) (p_20 : T0 15 (n).toNat = 28 ∨ T0 15 (n).toNat = 29) (p_21 : 0 ≤ T0 25 (n).toNat) (p_22 : T0 25 (n).toNat + 3 ≤ 4000) (p_23 : WB (n) (hi) (bd)) (p_24 : 0 ≤ D) (p_25 : D ≤ 4000) (p_26 : -4000 ≤ fw - D) (p_27 : fw ≤ 0) (p_28 : pb ≤ 24) (p_29 : PV T0 pb) (p_30 : PA Q pb A) : ∀ (m : Nat) (L : jL) (Gx : Nat → Int) (Ax : Nat → Nat → Int) (w mn le b6 dp c i st1 lg1 lb1 fw1 : Int) (La : Int → Int), (mn - i).toNat = m → jGet L 0 = some (.ref 66) → jGet L 1 = some (.int (i32 (n))) → jGet L 2 = some (.int (i32 (1))) → jGet L 3 = some (.int (i32 w)) → jGet L 4 = some (.int (i32 mn)) → jGet L 5 = some (.int (i32 le)) → jGet L 6 = some (.int (i32 b6)) → jGet L 7 = some (.int (i32 dp)) → jGet L 8 = some (.int (i32 c)) → jGet L 9 = some (.int (i32 i)) → Wk Gx Ax → Fr [70, 77, 79, 81, 89] [13, 44, 45, 46, 47, 50, 51, 56, 57, 58] G A Gx Ax → Fx [44, 45, 46, 47] (st) A Ax → Fx [58] (8 * al) A Ax → Fx [56, 57] (8 * nw) A Ax → Cd (lg1 = 0 ∧ lb1 < 19999) (Fx [50] (lb + 1) A Ax) → Gx 70 = st1 → Gx 79 = lg1 → Gx 77 = lb1 → Ax 51 (nw).toNat = fw1 → Gx 81 = nw → Gx 89 = al → ((-2147483648 : Int) ≤ w ∧ w ≤ 2147483647) → ((-2147483648 : Int) ≤ mn ∧ mn ≤ 2147483647) → ((-2147483648 : Int) ≤ le ∧ le ≤ 2147483647) → ((-2147483648 : Int) ≤ b6 ∧ b6 ≤ 2147483647) → ((-2147483648 : Int) ≤ dp ∧ dp ≤ 2147483647) → ((-2147483648 : Int) ≤ c ∧ c ≤ 2147483647) → ((-2147483648 : Int) ≤ i ∧ i ≤ 2147483647) → (st ≤ st1) → (st1 ≤ 7000) → (lg ≤ lg1) → (lg1 ≤ 1) → (lb + 2 ≤ lb1) → (Cd (lg1 = 0) (lb1 - lb ≤ st1 - st)) → (lb1 - lb ≤ 2 + 2 * i) → (w = T0 25 (n).toNat) → (mn = T0 20 (n).toNat) → (b6 = 8 * nw) → (dp = dpt T0 n (i).toNat) → (c = kid T0 n (i).toNat) → (0 ≤ i) → (i ≤ mn) → (fw1 = fw) → (1 ≤ le) → (le ≤ 19999) → (Cd (lb1 < 20000) (le = lb + 1)) → (T0 15 (n).toNat = 29) → (FA F (nw) Ax) → (SA T0 Vs Sn Ax) → (PE 56 (La) (b6) (i) Ax) → (PE 57 (fL T0 F nw n) (b6) (i) Ax) → (LBd (La) (i)) → (Cd (lg1 = 0 ∧ lb1 < 19999) (gP1 T0 Ax (La) (n) ((i).toNat) (le) (st) (st1) (lb + 1) (lb1))) → wj X d jm358 (118, L, [], rV c0 c1 Gx Ax T) (fun o V_q => ∃ (G_q : Nat → Int) (A_q : Nat → Nat → Int) (st2 : Int) (lg2 : Int) (lb2 : Int) (nw2 : Int) (al2 : Int) (fw2 : Int), V_q = rV c0 c1 G_q A_q T ∧ o = .inl none ∧ Wk G_q A_q ∧ Fr [70, 77, 79, 81, 89] [13, 44, 45, 46, 47, 50, 51, 56, 57, 58] G A G_q A_q ∧ Fx [44, 45, 46, 47] (st) A A_q ∧ Fx [58] (8 * al) A A_q ∧ Fx [56, 57] (8 * nw) A A_q ∧ G_q 70 = st2 ∧ G_q 79 = lg2 ∧ G_q 77 = lb2 ∧ G_q 81 = nw2 ∧ G_q 89 = al2 ∧ A_q 51 (nw).toNat = fw2 ∧ (st ≤ st2) ∧ (st2 ≤ 7000) ∧ (lg ≤ lg2) ∧ (lg2 ≤ 1) ∧ (lb ≤ lb2) ∧ (Cd (lg2 = 0) (lb2 - lb ≤ st2 - st)) ∧ (lb2 - lb ≤ st2 - st + bd) ∧ (Cd (lg2 = 0 ∧ lb2 < 19999) (Fx [50] (lb + 1) A A_q)) ∧ (nw2 = nw) ∧ (al2 = al) ∧ (fw2 = fw) ∧ (FA F (nw) A_q) ∧ (SA T0 Vs Sn A_q) ∧ (Cd (lg2 = 0 ∧ lb2 < 19999) (gPa T0 A_q (gP T0 A_q Q k) F Sn nw (n) (st) (st2) (lb) (lb2))) ∧ True) := by
  have hF0 : Fr [70, 77, 79, 81, 89] [13, 44, 45, 46, 47, 50, 51, 56, 57, 58] G A G A := Fr_rf
  have hC0 : Fx [44, 45, 46, 47] (st) A A := Fx_rf
  have hAl0 : Fx [58] (8 * al) A A := Fx_rf
  have hBp0 : Fx [56, 57] (8 * nw) A A := Fx_rf
  have b_st : (-2147483648 : Int) ≤ st ∧ st ≤ 2147483647 := e_st ▸ hW.1 70
  have b_lg : (0 : Int) ≤ lg ∧ lg ≤ 1 := e_lg ▸ hW.1 79
  have b_lb : (-2147483648 : Int) ≤ lb ∧ lb ≤ 2147483647 := e_lb ▸ hW.1 77
  have b_nw : (-2147483648 : Int) ≤ nw ∧ nw ≤ 2147483647 := e_nw ▸ hW.1 81
  have b_al : (-2147483648 : Int) ≤ al ∧ al ≤ 2147483647 := e_al ▸ hW.1 89
  have b_fw : (-2147483648 : Int) ≤ fw ∧ fw ≤ 2147483647 := e_fw ▸ hW.2 51 _
  have hWT := TA_w hW p_0
  have hBo0 : Cd (lg = 0 ∧ lb < 19999) (Fx [50] (lb + 1) A A) := Cd_mk (fun _ => Fx_rf)
  have hfw := FA_at p_1 p_4 e_fw
  have hKD := p_18; obtain ⟨hk1, hk2, hk3, hk4⟩ := hKD
  have hbp := WB_p p_23 (by omega) (by omega) (by omega)
  intro m
  induction m using Nat.strongRecOn with
  | ind m ih118_1 =>
    intro L Gx Ax w mn le b6 dp c i st1 lg1 lb1 fw1 La hm gL_0 gL_1 gL_2 gL_3 gL_4 gL_5 gL_6 gL_7 gL_8 gL_9 hWx hFx hCx hAlx hBpx hBox ex_st1 ex_lg1 ex_lb1 ex_fw1 fx_81 fx_89 rx_w rx_mn rx_le rx_b6 rx_dp rx_c rx_i iv_0 iv_1 iv_2 iv_3 iv_4 iv_5 iv_6 iv_7 iv_8 iv_9 iv_10 iv_11 iv_12 iv_13 iv_14 iv_15 iv_16 iv_17 iv_18 iv_19 iv_20 iv_21 iv_22 iv_23 iv_24
    have b_st1 : (-2147483648 : Int) ≤ st1 ∧ st1 ≤ 2147483647 := ex_st1 ▸ hWx.1 70
    have b_lg1 : (0 : Int) ≤ lg1 ∧ lg1 ≤ 1 := ex_lg1 ▸ hWx.1 79
    have b_lb1 : (-2147483648 : Int) ≤ lb1 ∧ lb1 ≤ 2147483647 := ex_lb1 ▸ hWx.1 77
    have hmy : mny T0 n = T0 20 (n).toNat := if_pos (by omega)
    refine jx_ld (pc_q := 120) (l_q := L) (st_q := [.int (i32 (i))]) rfl (jl_iload gL_9) ?_
    refine jx_ld (pc_q := 122) (l_q := L) (st_q := [.int (i32 (mn)), .int (i32 (i))]) rfl (jl_iload gL_4) ?_
    refine jx_icmp_ge (pc_q := 125) (tg := 284) rfl rfl rfl (Int.le_trans (by decide : (-2147483648 : Int) ≤ -2147483648) rx_i.1) (Int.le_trans rx_i.2 (by decide : (2147483647 : Int) ≤ 2147483647)) (Int.le_trans (by decide : (-2147483648 : Int) ≤ -2147483648) rx_mn.1) (Int.le_trans rx_mn.2 (by decide : (2147483647 : Int) ≤ 2147483647)) (fun h624 => ?_) (fun h624 => ?_)
    · have _q := h624
      refine jx_ld (pc_q := 285) (l_q := L) (st_q := [.ref 66]) rfl (jl_aloadn gL_0) ?_
      refine jx_ar (pc_q := 287) (st_q := [.int (i32 (18)), .ref 66]) rfl rfl rfl rfl ?_
      refine jx_vr (pc_q := 290) (as := [.int (i32 (18))]) (st := []) rfl rfl rfl rfl ⟨rfl, rfl, Nat.le_of_ble_eq_true rfl⟩ rfl rfl (c_op (dd := d) (hd := by omega) (hW := hWx) (oo := 18) (st := st1) (e_st := show Gx 70 = st1 from (ex_st1)) (lg := lg1) (e_lg := show Gx 79 = lg1 from (ex_lg1))  (h_oo := ⟨(by decide), (by decide)⟩)  (p_0 := by omega) (p_1 := by omega)) (fun o V_q hq => ?_)
      obtain ⟨G625, A626, st2_627, lg2_628, rfl, rfl, hW629, hF630, hQ631, e632, e633, p634, p635, p636, p637, p638, p639, -⟩ := hq
      have hF641 := Fr_tr hFx hF630 (Fr_sub (by decide)) (Fr_sub (by decide))
      have hC642 := Fx_tr hCx hQ631 (by omega)
      have hAl643 := Fx_f hAlx hF630 (by decide)
      have hBp644 := Fx_f hBpx hF630 (by decide)
      have sf645 := FA_fr (hF630.2 51 rfl) iv_19
      have sf646 := SA_fr (hF630.2 13 rfl) iv_20
      have sf647 : PE 56 (La) (b6) (i) A626 := PE_fr (hF630.2 56 rfl) iv_21
      have sf648 : PE 57 (fL T0 F nw n) (b6) (i) A626 := PE_fr (hF630.2 57 rfl) iv_22
      have bst2_627 : (-2147483648 : Int) ≤ st2_627 ∧ st2_627 ≤ 2147483647 := e632 ▸ hW629.1 70
      have blg2_628 : (0 : Int) ≤ lg2_628 ∧ lg2_628 ≤ 1 := e633 ▸ hW629.1 79
      refine .inl ⟨rfl, ?_⟩
      have sf649 : Cd (lg2_628 = 0 ∧ lb1 < 19999) (gP1 T0 A626 (La) (n) ((i).toNat) (le) (st) (st1) (lb + 1) (lb1)) := Cd_mk (fun hC => gP1_mv (Cg_fx (l0 := lb + 1) (l1 := lb1) hQ631 (Fx_f (w := lb1 + 1) Fx_rf hF630 (by decide)) (by omega)) (by omega) (Cd_ap iv_24 (by omega)))
      have hBo650 : Cd (lg2_628 = 0 ∧ lb1 < 19999) (Fx [50] (lb + 1) A A626) := Cd_mk (fun hC => Fx_f (Cd_ap hBox (by omega)) hF630 (by decide))
      refine jx_ld (pc_q := 291) (l_q := L) (st_q := [.ref 66]) rfl (jl_aloadn gL_0) ?_
      refine jr_get (pc_q := 294) (i := 80) (v := .ref 118) rfl rfl (by decide) rfl rfl ?_
      refine jx_ld (pc_q := 295) (l_q := L) (st_q := [.ref 66, .ref 118]) rfl (jl_aloadn gL_0) ?_
      refine jr_get (pc_q := 298) (i := 81) (v := .int (i32 (nw))) rfl rfl (by decide) (rFv_eq (by decide) (show G625 81 = nw from ((hF630.1 81 rfl).trans (fx_81)))) rfl ?_
      refine jr_ldv (pc_q := 299) (i := 51) (m := 40) (z := nw) (y := fw1) rfl (by decide) rfl (by decide) (by omega) (by omega) rfl (show A626 51 (nw).toNat = fw1 from (congrFun (hF630.2 51 rfl) _).trans (ex_fw1)) ?_
      refine jx_ld (pc_q := 301) (l_q := jSto1 L 9 (.int (i32 (fw1)))) (st_q := []) rfl rfl ?_
      obtain ⟨L651, eL651⟩ : ∃ q, q = jSto1 L 9 (.int (i32 (fw1))) := ⟨_, rfl⟩
      rw [← eL651]
      have gL651_0 : jGet L651 0 = some (.ref 66) := eL651 ▸ jg_ne (by decide) gL_0 rfl
      have gL651_1 : jGet L651 1 = some (.int (i32 (n))) := eL651 ▸ jg_ne (by decide) gL_1 rfl
      have gL651_2 : jGet L651 2 = some (.int (i32 (1))) := eL651 ▸ jg_ne (by decide) gL_2 rfl
      have gL651_3 : jGet L651 3 = some (.int (i32 (w))) := eL651 ▸ jg_ne (by decide) gL_3 rfl
      have gL651_4 : jGet L651 4 = some (.int (i32 (mn))) := eL651 ▸ jg_ne (by decide) gL_4 rfl
      have gL651_5 : jGet L651 5 = some (.int (i32 (le))) := eL651 ▸ jg_ne (by decide) gL_5 rfl
      have gL651_6 : jGet L651 6 = some (.int (i32 (b6))) := eL651 ▸ jg_ne (by decide) gL_6 rfl
      have gL651_7 : jGet L651 7 = some (.int (i32 (dp))) := eL651 ▸ jg_ne (by decide) gL_7 rfl
      have gL651_8 : jGet L651 8 = some (.int (i32 (c))) := eL651 ▸ jg_ne (by decide) gL_8 rfl
      have gL651_9 : jGet L651 9 = some (.int (i32 (fw1))) := eL651 ▸ jg_eq
      have hmy : mny T0 n = T0 20 (n).toNat := if_pos (by omega); have hk0 : kid T0 n (0 : Int).toNat = T0 21 (n).toNat := kid_29 (by omega); have hd0 : dpt T0 n (0 : Int).toNat = 3 := rfl
      refine jx_ld (pc_q := 302) (l_q := L651) (st_q := [.ref 66]) rfl (jl_aloadn gL651_0) ?_
      refine jr_get (pc_q := 305) (i := 38) (v := .ref 88) rfl rfl (by decide) rfl rfl ?_
      refine jx_ld (pc_q := 306) (l_q := L651) (st_q := [.int (i32 (n)), .ref 88]) rfl (jl_iloadn gL651_1) ?_
      have b652 : (-2147483648 : Int) ≤ T0 21 (n).toNat ∧ T0 21 (n).toNat ≤ 2147483647 := hWT.2 21 _
      refine jr_ldv (pc_q := 307) (i := 21) (m := 7000) (z := n) (y := T0 21 (n).toNat) rfl (by decide) rfl (by decide) (by omega) (by omega) rfl (show A626 21 (n).toNat = T0 21 (n).toNat from (congrFun ((hF630.2 21 rfl).trans ((hFx.2 21 rfl).trans (p_0 21 rfl))) _)) ?_
      refine jx_ld (pc_q := 309) (l_q := jSto1 L651 8 (.int (i32 (T0 21 (n).toNat)))) (st_q := []) rfl rfl ?_
      obtain ⟨L653, eL653⟩ : ∃ q, q = jSto1 L651 8 (.int (i32 (T0 21 (n).toNat))) := ⟨_, rfl⟩
      rw [← eL653]
      have gL653_0 : jGet L653 0 = some (.ref 66) := eL653 ▸ jg_ne (by decide) gL651_0 rfl
      have gL653_1 : jGet L653 1 = some (.int (i32 (n))) := eL653 ▸ jg_ne (by decide) gL651_1 rfl
      have gL653_2 : jGet L653 2 = some (.int (i32 (1))) := eL653 ▸ jg_ne (by decide) gL651_2 rfl
      have gL653_3 : jGet L653 3 = some (.int (i32 (w))) := eL653 ▸ jg_ne (by decide) gL651_3 rfl
      have gL653_4 : jGet L653 4 = some (.int (i32 (mn))) := eL653 ▸ jg_ne (by decide) gL651_4 rfl
      have gL653_5 : jGet L653 5 = some (.int (i32 (le))) := eL653 ▸ jg_ne (by decide) gL651_5 rfl
      have gL653_6 : jGet L653 6 = some (.int (i32 (b6))) := eL653 ▸ jg_ne (by decide) gL651_6 rfl
      have gL653_7 : jGet L653 7 = some (.int (i32 (dp))) := eL653 ▸ jg_ne (by decide) gL651_7 rfl
      have gL653_9 : jGet L653 9 = some (.int (i32 (fw1))) := eL653 ▸ jg_ne (by decide) gL651_9 rfl
      have gL653_8 : jGet L653 8 = some (.int (i32 (T0 21 (n).toNat))) := eL653 ▸ jg_eq
      refine jx_ar (pc_q := 310) (st_q := [.int (i32 (0))]) rfl rfl rfl rfl ?_
      refine jx_ld (pc_q := 312) (l_q := jSto1 L653 10 (.int (i32 (0)))) (st_q := []) rfl rfl ?_
      obtain ⟨L654, eL654⟩ : ∃ q, q = jSto1 L653 10 (.int (i32 (0))) := ⟨_, rfl⟩
      rw [← eL654]
      have gL654_0 : jGet L654 0 = some (.ref 66) := eL654 ▸ jg_ne (by decide) gL653_0 rfl
      have gL654_1 : jGet L654 1 = some (.int (i32 (n))) := eL654 ▸ jg_ne (by decide) gL653_1 rfl
      have gL654_2 : jGet L654 2 = some (.int (i32 (1))) := eL654 ▸ jg_ne (by decide) gL653_2 rfl
      have gL654_3 : jGet L654 3 = some (.int (i32 (w))) := eL654 ▸ jg_ne (by decide) gL653_3 rfl
      have gL654_4 : jGet L654 4 = some (.int (i32 (mn))) := eL654 ▸ jg_ne (by decide) gL653_4 rfl
      have gL654_5 : jGet L654 5 = some (.int (i32 (le))) := eL654 ▸ jg_ne (by decide) gL653_5 rfl
      have gL654_6 : jGet L654 6 = some (.int (i32 (b6))) := eL654 ▸ jg_ne (by decide) gL653_6 rfl
      have gL654_7 : jGet L654 7 = some (.int (i32 (dp))) := eL654 ▸ jg_ne (by decide) gL653_7 rfl
      have gL654_9 : jGet L654 9 = some (.int (i32 (fw1))) := eL654 ▸ jg_ne (by decide) gL653_9 rfl
      have gL654_8 : jGet L654 8 = some (.int (i32 (T0 21 (n).toNat))) := eL654 ▸ jg_ne (by decide) gL653_8 rfl
      have gL654_10 : jGet L654 10 = some (.int (i32 (0))) := eL654 ▸ jg_eq
      exact c_genPar_at_312_1 (X := X) (k := k) (hN := hN) (d := d) (T0 := T0) (Q := Q) (F := F) (Sn := Sn) (Vs := Vs) (sb := sb) (pb := pb) (c0 := c0) (c1 := c1) (G := G) (A := A) (T := T) (n := n) (hi := hi) (s0 := s0) (s1 := s1) (D := D) (bd := bd) (st := st) (lg := lg) (lb := lb) (nw := nw) (al := al) (fw := fw) (hd := hd) (hW := hW) (e_st := e_st) (e_lg := e_lg) (e_lb := e_lb) (e_nw := e_nw) (e_al := e_al) (e_fw := e_fw) (h_n := h_n) (p_0 := p_0) (p_1 := p_1) (p_2 := p_2) (p_3 := p_3) (p_4 := p_4) (p_5 := p_5) (p_6 := p_6) (p_7 := p_7) (p_8 := p_8) (p_9 := p_9) (p_10 := p_10) (p_11 := p_11) (p_12 := p_12) (p_13 := p_13) (p_14 := p_14) (p_15 := p_15) (p_16 := p_16) (p_17 := p_17) (p_18 := p_18) (p_19 := p_19) (p_20 := p_20) (p_21 := p_21) (p_22 := p_22) (p_23 := p_23) (p_24 := p_24) (p_25 := p_25) (p_26 := p_26) (p_27 := p_27) (p_28 := p_28) (p_29 := p_29) (p_30 := p_30) _ L654 G625 A626 (w) (mn) (le) (b6) (T0 21 (n).toNat) (fw1) (0) (st2_627) (lg2_628) (lb1) (fw1) (La) rfl gL654_0 gL654_1 gL654_2 gL654_3 gL654_4 gL654_5 gL654_6 gL654_8 gL654_9 gL654_10 hW629 hF641 hC642 hAl643 hBp644 (Cd_mk (fun hC => Cd_ap hBo650 (by omega))) ((e632)) ((e633)) (((hF630.1 77 rfl).trans (ex_lb1))) ((congrFun (hF630.2 51 rfl) _).trans (ex_fw1)) (((hF630.1 81 rfl).trans (fx_81))) (((hF630.1 89 rfl).trans (fx_89))) (by omega) (by omega) (by omega) (by omega) (by omega) (by omega) (by omega) (by omega) (by omega) (by omega) (by omega) (by omega) ((Cd_mk (fun hC => by have := Cd_ap iv_5 (by omega); omega))) (by omega) (by omega) (by omega) (by omega) (by omega) (by omega) (by omega) (by omega) (by omega) (by omega) (by omega) ((Cd_mk (fun hC => (by have hr := Cd_ap iv_17 (by omega); omega)))) (by omega) (sf645) (sf646) ((PE_i (by omega) sf647)) ((PE_i (by omega) sf648)) ((LBd_i (by omega) iv_23)) ((Cd_mk (fun hC => (gP2_0 (by omega) (Cd_ap sf649 (by omega)) (by omega) (Cd_ap p639 (by omega)) (by omega) rfl))))
    · have _q := h624
      obtain ⟨hj1, ⟨a8, b8, u8, v8, ha8, hb8, hu8, hu9, hv8, hw8⟩, hj3, hj4, hj5, hj6, hj7⟩ := hk4 (i).toNat (by omega); have hin8 := wP_in hw8; have hk26 : T0 26 (c).toNat = T0 26 (kid T0 n (i).toNat).toNat := (by rw [iv_11]); have hk27 : T0 27 (c).toNat = T0 27 (kid T0 n (i).toNat).toNat := (by rw [iv_11]); have hk22 : T0 22 (c).toNat = T0 22 (kid T0 n (i).toNat).toNat := (by rw [iv_11])
      refine jx_ld (pc_q := 126) (l_q := L) (st_q := [.ref 66]) rfl (jl_aloadn gL_0) ?_
      refine jr_get (pc_q := 129) (i := 86) (v := .ref 123) rfl rfl (by decide) rfl rfl ?_
      refine jx_ld (pc_q := 131) (l_q := L) (st_q := [.int (i32 (b6)), .ref 123]) rfl (jl_iload gL_6) ?_
      refine jx_ld (pc_q := 133) (l_q := L) (st_q := [.int (i32 (i)), .int (i32 (b6)), .ref 123]) rfl (jl_iload gL_9) ?_
      refine jx_add (pc_q := 134) rfl rfl ?_
      refine jx_ld (pc_q := 135) (l_q := L) (st_q := [.ref 66, .int (i32 ((b6 + i))), .ref 123]) rfl (jl_aloadn gL_0) ?_
      refine jx_vr (pc_q := 138) (as := []) (st := [.int (i32 ((b6 + i))), .ref 123]) rfl rfl rfl rfl ⟨rfl, rfl, Nat.le_of_ble_eq_true rfl⟩ rfl rfl (c_label (dd := d) (hd := by omega) (hW := hWx)  (lb := lb1) (e_lb := show Gx 77 = lb1 from (ex_lb1))    (p_0 := by omega) (p_1 := by omega)) (fun o V_q hq => ?_)
      obtain ⟨G655, A656, r657, lb2_658, rfl, rfl, hW659, hF660, b661, e662, p663, p664, p665, p666, -⟩ := hq
      have hF668 := Fr_tr hFx hF660 (Fr_sub (by decide)) (Fr_sub (by decide))
      have hC669 := Fx_f hCx hF660 (by decide)
      have hAl670 := Fx_f hAlx hF660 (by decide)
      have hBp671 := Fx_f hBpx hF660 (by decide)
      have sf672 := FA_fr (hF660.2 51 rfl) iv_19
      have sf673 := SA_fr (hF660.2 13 rfl) iv_20
      have sf674 : PE 56 (La) (b6) (i) A656 := PE_fr (hF660.2 56 rfl) iv_21
      have sf675 : PE 57 (fL T0 F nw n) (b6) (i) A656 := PE_fr (hF660.2 57 rfl) iv_22
      have blb2_658 : (-2147483648 : Int) ≤ lb2_658 ∧ lb2_658 ≤ 2147483647 := e662 ▸ hW659.1 77
      refine .inr ⟨_, rfl, ?_⟩
      have sf676 : Cd (lg1 = 0 ∧ lb2_658 < 19999) (gP1 T0 A656 (La) (n) ((i).toNat) (le) (st) (st1) (lb + 1) (lb1)) := Cd_mk (fun hC => gP1_mv (Cg_fx (l0 := lb + 1) (l1 := lb1) (Fx_f (w := st1) Fx_rf hF660 (by decide)) (Fx_f (w := lb1 + 1) Fx_rf hF660 (by decide)) (by omega)) (by omega) (Cd_ap iv_24 (by omega)))
      have hBo677 : Cd (lg1 = 0 ∧ lb2_658 < 19999) (Fx [50] (lb + 1) A A656) := Cd_mk (fun hC => Fx_f (Cd_ap hBox (by omega)) hF660 (by decide))
      have _q : True := trivial
      refine jr_st (pc_q := 139) (i := 56) (m := 320) (z := (b6 + i)) (y := r657) rfl (by decide) rfl (by decide) (by omega) (by omega) rfl ?_
      have hW679 : Wk G655 (uA A656 56 ((b6 + i)).toNat (r657)) := Wk_a hW659 (show (-2147483648 : Int) ≤ r657 by omega) (show r657 ≤ (2147483647 : Int) by omega)
      have hF680 := Fr_a (z := r657) (k := 56) (n := ((b6 + i)).toNat) hF668 (by decide)
      obtain ⟨A678, eA678⟩ : ∃ q, q = uA A656 56 ((b6 + i)).toNat (r657) := ⟨_, rfl⟩
      rw [← eA678]
      rw [← eA678] at hW679 hF680
      have q681 : A678 56 ((b6 + i)).toNat = r657 := by rw [eA678]; exact uA_eq
      have hC682 : Fx [44, 45, 46, 47] (st) A A678 := eA678 ▸ Fx_n hC669 rfl
      have hAl683 : Fx [58] (8 * al) A A678 := eA678 ▸ Fx_n hAl670 rfl
      have hBp684 : Fx [56, 57] (8 * nw) A A678 := eA678 ▸ Fx_a hBp671 (z := (b6 + i)) (by omega) (by omega)
      have sf685 := FA_fr ((congrFun eA678 51).trans (uA_ne (by decide))) sf672
      have sf686 := SA_fr ((congrFun eA678 13).trans (uA_ne (by decide))) sf673
      have sf687 : PE 56 (upf La i r657) (b6) ((i + 1)) A678 := PE_nx eA678 (by omega) (by omega) (by omega) (by omega) upf_e (PE_up sf674)
      have sf688 : PE 57 (fL T0 F nw n) (b6) (i) A678 := PE_fr ((congrFun eA678 57).trans (uA_ne (by decide))) sf675
      have sf689 : Cd (lg1 = 0 ∧ lb2_658 < 19999) (gP1 T0 A678 (La) (n) ((i).toNat) (le) (st) (st1) (lb + 1) (lb1)) := Cd_mk (fun hC => gP1_mv (Cg_ne (K := st1) eA678 rfl) (Int.le_refl _) (Cd_ap sf676 (by omega)))
      have hBo690 : Cd (lg1 = 0 ∧ lb2_658 < 19999) (Fx [50] (lb + 1) A A678) := Cd_mk (fun hC => Fx_un eA678 (Cd_ap hBo677 (by omega)) rfl)
      have hds := dpt_s (T := T0) (p := n) (i := i) (by omega); have hks := (kid_29 (j := (i + 1).toNat) iv_18).trans (kid_29 (j := (i).toNat) iv_18).symm
      refine jx_ld (pc_q := 140) (l_q := L) (st_q := [.ref 66]) rfl (jl_aloadn gL_0) ?_
      refine jr_get (pc_q := 143) (i := 87) (v := .ref 124) rfl rfl (by decide) rfl rfl ?_
      refine jx_ld (pc_q := 145) (l_q := L) (st_q := [.int (i32 (b6)), .ref 124]) rfl (jl_iload gL_6) ?_
      refine jx_ld (pc_q := 147) (l_q := L) (st_q := [.int (i32 (i)), .int (i32 (b6)), .ref 124]) rfl (jl_iload gL_9) ?_
      refine jx_add (pc_q := 148) rfl rfl ?_
      refine jx_ld (pc_q := 149) (l_q := L) (st_q := [.ref 66, .int (i32 ((b6 + i))), .ref 124]) rfl (jl_aloadn gL_0) ?_
      refine jr_get (pc_q := 152) (i := 80) (v := .ref 118) rfl rfl (by decide) rfl rfl ?_
      refine jx_ld (pc_q := 153) (l_q := L) (st_q := [.ref 66, .ref 118, .int (i32 ((b6 + i))), .ref 124]) rfl (jl_aloadn gL_0) ?_
      refine jr_get (pc_q := 156) (i := 81) (v := .int (i32 (nw))) rfl rfl (by decide) (rFv_eq (by decide) (show G655 81 = nw from ((hF660.1 81 rfl).trans (fx_81)))) rfl ?_
      refine jr_ldv (pc_q := 157) (i := 51) (m := 40) (z := nw) (y := fw1) rfl (by decide) rfl (by decide) (by omega) (by omega) rfl (show A678 51 (nw).toNat = fw1 from (congrFun (((congrFun eA678 51).trans (uA_ne (by decide))).trans (hF660.2 51 rfl)) _).trans (ex_fw1)) ?_
      refine jx_ld (pc_q := 159) (l_q := L) (st_q := [.int (i32 (dp)), .int (i32 (fw1)), .int (i32 ((b6 + i))), .ref 124]) rfl (jl_iload gL_7) ?_
      refine jx_sub (pc_q := 160) rfl rfl ?_
      refine jx_ld (pc_q := 161) (l_q := L) (st_q := [.ref 66, .int (i32 ((fw1 - dp))), .int (i32 ((b6 + i))), .ref 124]) rfl (jl_aloadn gL_0) ?_
      refine jr_get (pc_q := 164) (i := 43) (v := .ref 93) rfl rfl (by decide) rfl rfl ?_
      refine jx_ld (pc_q := 166) (l_q := L) (st_q := [.int (i32 (c)), .ref 93, .int (i32 ((fw1 - dp))), .int (i32 ((b6 + i))), .ref 124]) rfl (jl_iload gL_8) ?_
      have b691 : (-2147483648 : Int) ≤ T0 26 (c).toNat ∧ T0 26 (c).toNat ≤ 2147483647 := hWT.2 26 _
      refine jr_ldv (pc_q := 167) (i := 26) (m := 7000) (z := c) (y := T0 26 (c).toNat) rfl (by decide) rfl (by decide) (by omega) (by omega) rfl (show A678 26 (c).toNat = T0 26 (c).toNat from (congrFun (((congrFun eA678 26).trans (uA_ne (by decide))).trans ((hF660.2 26 rfl).trans ((hFx.2 26 rfl).trans (p_0 26 rfl)))) _)) ?_
      refine jx_sub (pc_q := 168) rfl rfl ?_
      refine jr_st (pc_q := 169) (i := 57) (m := 320) (z := (b6 + i)) (y := ((fw1 - dp) - T0 26 (c).toNat)) rfl (by decide) rfl (by decide) (by omega) (by omega) rfl ?_
      have hW693 : Wk G655 (uA A678 57 ((b6 + i)).toNat (((fw1 - dp) - T0 26 (c).toNat))) := Wk_a hW679 (show (-2147483648 : Int) ≤ ((fw1 - dp) - T0 26 (c).toNat) by omega) (show ((fw1 - dp) - T0 26 (c).toNat) ≤ (2147483647 : Int) by omega)
      have hF694 := Fr_a (z := ((fw1 - dp) - T0 26 (c).toNat)) (k := 57) (n := ((b6 + i)).toNat) hF680 (by decide)
      obtain ⟨A692, eA692⟩ : ∃ q, q = uA A678 57 ((b6 + i)).toNat (((fw1 - dp) - T0 26 (c).toNat)) := ⟨_, rfl⟩
      rw [← eA692]
      rw [← eA692] at hW693 hF694
      have q695 : A692 57 ((b6 + i)).toNat = ((fw1 - dp) - T0 26 (c).toNat) := by rw [eA692]; exact uA_eq
      have hC696 : Fx [44, 45, 46, 47] (st) A A692 := eA692 ▸ Fx_n hC682 rfl
      have hAl697 : Fx [58] (8 * al) A A692 := eA692 ▸ Fx_n hAl683 rfl
      have hBp698 : Fx [56, 57] (8 * nw) A A692 := eA692 ▸ Fx_a hBp684 (z := (b6 + i)) (by omega) (by omega)
      have sf699 := FA_fr ((congrFun eA692 51).trans (uA_ne (by decide))) sf685
      have sf700 := SA_fr ((congrFun eA692 13).trans (uA_ne (by decide))) sf686
      have sf701 : PE 56 (upf La i r657) (b6) ((i + 1)) A692 := PE_fr ((congrFun eA692 56).trans (uA_ne (by decide))) sf687
      have sf702 : PE 57 (fL T0 F nw n) (b6) ((i + 1)) A692 := PE_nx eA692 (by omega) (by omega) (by omega) (by omega) (show fL T0 F nw n (i) = ((fw1 - dp) - T0 26 (c).toNat) by unfold fL; omega) sf688
      have sf703 : Cd (lg1 = 0 ∧ lb2_658 < 19999) (gP1 T0 A692 (La) (n) ((i).toNat) (le) (st) (st1) (lb + 1) (lb1)) := Cd_mk (fun hC => gP1_mv (Cg_ne (K := st1) eA692 rfl) (Int.le_refl _) (Cd_ap sf689 (by omega)))
      have hBo704 : Cd (lg1 = 0 ∧ lb2_658 < 19999) (Fx [50] (lb + 1) A A692) := Cd_mk (fun hC => Fx_un eA692 (Cd_ap hBo690 (by omega)) rfl)
      refine jx_ld (pc_q := 171) (l_q := L) (st_q := [.int (i32 (dp))]) rfl (jl_iload gL_7) ?_
      refine jx_ld (pc_q := 172) (l_q := L) (st_q := [.ref 66, .int (i32 (dp))]) rfl (jl_aloadn gL_0) ?_
      refine jr_get (pc_q := 175) (i := 43) (v := .ref 93) rfl rfl (by decide) rfl rfl ?_
      refine jx_ld (pc_q := 177) (l_q := L) (st_q := [.int (i32 (c)), .ref 93, .int (i32 (dp))]) rfl (jl_iload gL_8) ?_
      refine jr_ldv (pc_q := 178) (i := 26) (m := 7000) (z := c) (y := T0 26 (c).toNat) rfl (by decide) rfl (by decide) (by omega) (by omega) rfl (show A692 26 (c).toNat = T0 26 (c).toNat from (congrFun (((congrFun eA692 26).trans (uA_ne (by decide))).trans (((congrFun eA678 26).trans (uA_ne (by decide))).trans ((hF660.2 26 rfl).trans ((hFx.2 26 rfl).trans (p_0 26 rfl))))) _)) ?_
      refine jx_add (pc_q := 179) rfl rfl ?_
      refine jx_ld (pc_q := 180) (l_q := L) (st_q := [.ref 66, .int (i32 ((dp + T0 26 (c).toNat)))]) rfl (jl_aloadn gL_0) ?_
      refine jr_get (pc_q := 183) (i := 44) (v := .ref 94) rfl rfl (by decide) rfl rfl ?_
      refine jx_ld (pc_q := 185) (l_q := L) (st_q := [.int (i32 (c)), .ref 94, .int (i32 ((dp + T0 26 (c).toNat)))]) rfl (jl_iload gL_8) ?_
      have b705 : (-2147483648 : Int) ≤ T0 27 (c).toNat ∧ T0 27 (c).toNat ≤ 2147483647 := hWT.2 27 _
      refine jr_ldv (pc_q := 186) (i := 27) (m := 7000) (z := c) (y := T0 27 (c).toNat) rfl (by decide) rfl (by decide) (by omega) (by omega) rfl (show A692 27 (c).toNat = T0 27 (c).toNat from (congrFun (((congrFun eA692 27).trans (uA_ne (by decide))).trans (((congrFun eA678 27).trans (uA_ne (by decide))).trans ((hF660.2 27 rfl).trans ((hFx.2 27 rfl).trans (p_0 27 rfl))))) _)) ?_
      refine jx_add (pc_q := 187) rfl rfl ?_
      refine jx_ar (pc_q := 188) (st_q := [.int (i32 (3)), .int (i32 (((dp + T0 26 (c).toNat) + T0 27 (c).toNat)))]) rfl rfl rfl rfl ?_
      refine jx_add (pc_q := 189) rfl rfl ?_
      refine jx_ld (pc_q := 191) (l_q := jSto1 L 7 (.int (i32 ((((dp + T0 26 (c).toNat) + T0 27 (c).toNat) + 3))))) (st_q := []) rfl rfl ?_
      obtain ⟨L706, eL706⟩ : ∃ q, q = jSto1 L 7 (.int (i32 ((((dp + T0 26 (c).toNat) + T0 27 (c).toNat) + 3)))) := ⟨_, rfl⟩
      rw [← eL706]
      have gL706_0 : jGet L706 0 = some (.ref 66) := eL706 ▸ jg_ne (by decide) gL_0 rfl
      have gL706_1 : jGet L706 1 = some (.int (i32 (n))) := eL706 ▸ jg_ne (by decide) gL_1 rfl
      have gL706_2 : jGet L706 2 = some (.int (i32 (1))) := eL706 ▸ jg_ne (by decide) gL_2 rfl
      have gL706_3 : jGet L706 3 = some (.int (i32 (w))) := eL706 ▸ jg_ne (by decide) gL_3 rfl
      have gL706_4 : jGet L706 4 = some (.int (i32 (mn))) := eL706 ▸ jg_ne (by decide) gL_4 rfl
      have gL706_5 : jGet L706 5 = some (.int (i32 (le))) := eL706 ▸ jg_ne (by decide) gL_5 rfl
      have gL706_6 : jGet L706 6 = some (.int (i32 (b6))) := eL706 ▸ jg_ne (by decide) gL_6 rfl
      have gL706_8 : jGet L706 8 = some (.int (i32 (c))) := eL706 ▸ jg_ne (by decide) gL_8 rfl
      have gL706_9 : jGet L706 9 = some (.int (i32 (i))) := eL706 ▸ jg_ne (by decide) gL_9 rfl
      have gL706_7 : jGet L706 7 = some (.int (i32 ((((dp + T0 26 (c).toNat) + T0 27 (c).toNat) + 3)))) := eL706 ▸ jg_eq
      refine jx_ld (pc_q := 192) (l_q := L706) (st_q := [.ref 66]) rfl (jl_aloadn gL706_0) ?_
      refine jx_ld (pc_q := 193) (l_q := L706) (st_q := [.ref 66, .ref 66]) rfl (jl_aloadn gL706_0) ?_
      refine jr_get (pc_q := 196) (i := 86) (v := .ref 123) rfl rfl (by decide) rfl rfl ?_
      refine jx_ld (pc_q := 198) (l_q := L706) (st_q := [.int (i32 (b6)), .ref 123, .ref 66]) rfl (jl_iload gL706_6) ?_
      refine jx_ld (pc_q := 200) (l_q := L706) (st_q := [.int (i32 (i)), .int (i32 (b6)), .ref 123, .ref 66]) rfl (jl_iload gL706_9) ?_
      refine jx_add (pc_q := 201) rfl rfl ?_
      refine jr_ldv (pc_q := 202) (i := 56) (m := 320) (z := (b6 + i)) (y := r657) rfl (by decide) rfl (by decide) (by omega) (by omega) rfl (show A692 56 ((b6 + i)).toNat = r657 from (congrFun ((congrFun eA692 56).trans (uA_ne (by decide))) _).trans (q681)) ?_
      refine jx_vr (pc_q := 205) (as := [.int (i32 (r657))]) (st := []) rfl rfl rfl rfl ⟨rfl, rfl, Nat.le_of_ble_eq_true rfl⟩ rfl rfl (c_place (dd := d) (hd := by omega) (hW := hW693) (to := r657) (st := st1) (e_st := show G655 70 = st1 from ((hF660.1 70 rfl).trans (ex_st1))) (lg := lg1) (e_lg := show G655 79 = lg1 from ((hF660.1 79 rfl).trans (ex_lg1))) (lb := lb2_658) (e_lb := show G655 77 = lb2_658 from (e662))  (h_to := ⟨(Int.le_trans (by decide : (-2147483648 : Int) ≤ -2147483648) b661.1), (Int.le_trans b661.2 (by decide : (2147483647 : Int) ≤ 2147483647))⟩)  (p_0 := by omega) (p_1 := by omega) (p_2 := by omega) (p_3 := by omega)) (fun o V_q hq => ?_)
      obtain ⟨G707, A708, st2_709, lg2_710, lb2_711, rfl, rfl, hW712, hF713, hQ714, e715, e716, e717, p718, p719, p720, p721, p722, p723, p724, p725, -⟩ := hq
      have hF727 := Fr_tr hF694 hF713 (Fr_sub (by decide)) (Fr_sub (by decide))
      have hC728 := Fx_tr hC696 hQ714 (by omega)
      have hAl729 := Fx_f hAl697 hF713 (by decide)
      have hBp730 := Fx_f hBp698 hF713 (by decide)
      have sf731 := FA_fr (hF713.2 51 rfl) sf699
      have sf732 := SA_fr (hF713.2 13 rfl) sf700
      have sf733 : PE 56 (upf La i r657) (b6) ((i + 1)) A708 := PE_fr (hF713.2 56 rfl) sf701
      have sf734 : PE 57 (fL T0 F nw n) (b6) ((i + 1)) A708 := PE_fr (hF713.2 57 rfl) sf702
      have bst2_709 : (-2147483648 : Int) ≤ st2_709 ∧ st2_709 ≤ 2147483647 := e715 ▸ hW712.1 70
      have blg2_710 : (0 : Int) ≤ lg2_710 ∧ lg2_710 ≤ 1 := e716 ▸ hW712.1 79
      have blb2_711 : (-2147483648 : Int) ≤ lb2_711 ∧ lb2_711 ≤ 2147483647 := e717 ▸ hW712.1 77
      refine .inl ⟨rfl, ?_⟩
      have sf735 : Cd (lg2_710 = 0 ∧ lb2_711 < 19999) (gP1 T0 A708 (La) (n) ((i).toNat) (le) (st) (st1) (lb + 1) (lb1)) := Cd_mk (fun hC => gP1_mv (Cg_fx (l0 := lb + 1) (l1 := lb1) hQ714 (Cd_ap p724 (by omega)) (by omega)) (by omega) (Cd_ap sf703 (by omega)))
      have hBo736 : Cd (lg2_710 = 0 ∧ lb2_711 < 19999) (Fx [50] (lb + 1) A A708) := Cd_mk (fun hC => Fx_tr (Cd_ap hBo704 (by omega)) (Cd_ap p724 (by omega)) (by omega))
      refine jx_ld (pc_q := 206) (l_q := L706) (st_q := [.ref 66]) rfl (jl_aloadn gL706_0) ?_
      refine jx_ar (pc_q := 207) (st_q := [.int (i32 (1)), .ref 66]) rfl rfl rfl rfl ?_
      refine jx_ld (pc_q := 208) (l_q := L706) (st_q := [.ref 66, .int (i32 (1)), .ref 66]) rfl (jl_aloadn gL706_0) ?_
      refine jr_get (pc_q := 211) (i := 87) (v := .ref 124) rfl rfl (by decide) rfl rfl ?_
      refine jx_ld (pc_q := 213) (l_q := L706) (st_q := [.int (i32 (b6)), .ref 124, .int (i32 (1)), .ref 66]) rfl (jl_iload gL706_6) ?_
      refine jx_ld (pc_q := 215) (l_q := L706) (st_q := [.int (i32 (i)), .int (i32 (b6)), .ref 124, .int (i32 (1)), .ref 66]) rfl (jl_iload gL706_9) ?_
      refine jx_add (pc_q := 216) rfl rfl ?_
      refine jr_ldv (pc_q := 217) (i := 57) (m := 320) (z := (b6 + i)) (y := ((fw1 - dp) - T0 26 (c).toNat)) rfl (by decide) rfl (by decide) (by omega) (by omega) rfl (show A708 57 ((b6 + i)).toNat = ((fw1 - dp) - T0 26 (c).toNat) from (congrFun (hF713.2 57 rfl) _).trans (q695)) ?_
      refine jx_ld (pc_q := 218) (l_q := L706) (st_q := [.ref 66, .int (i32 (((fw1 - dp) - T0 26 (c).toNat))), .int (i32 (1)), .ref 66]) rfl (jl_aloadn gL706_0) ?_
      refine jr_get (pc_q := 221) (i := 80) (v := .ref 118) rfl rfl (by decide) rfl rfl ?_
      refine jx_ld (pc_q := 222) (l_q := L706) (st_q := [.ref 66, .ref 118, .int (i32 (((fw1 - dp) - T0 26 (c).toNat))), .int (i32 (1)), .ref 66]) rfl (jl_aloadn gL706_0) ?_
      refine jr_get (pc_q := 225) (i := 81) (v := .int (i32 (nw))) rfl rfl (by decide) (rFv_eq (by decide) (show G707 81 = nw from ((hF713.1 81 rfl).trans ((hF660.1 81 rfl).trans (fx_81))))) rfl ?_
      refine jr_ldv (pc_q := 226) (i := 51) (m := 40) (z := nw) (y := fw1) rfl (by decide) rfl (by decide) (by omega) (by omega) rfl (show A708 51 (nw).toNat = fw1 from (congrFun ((hF713.2 51 rfl).trans (((congrFun eA692 51).trans (uA_ne (by decide))).trans (((congrFun eA678 51).trans (uA_ne (by decide))).trans (hF660.2 51 rfl)))) _).trans (ex_fw1)) ?_
      refine jx_sub (pc_q := 227) rfl rfl ?_
      refine jx_vr (pc_q := 230) (as := [.int (i32 (1)), .int (i32 ((((fw1 - dp) - T0 26 (c).toNat) - fw1)))]) (st := []) rfl rfl rfl rfl ⟨rfl, rfl, Nat.le_of_ble_eq_true rfl⟩ rfl rfl (c_emit (dd := d) (hd := by omega) (hW := hW712) (fn := 1) (v := (((fw1 - dp) - T0 26 (c).toNat) - fw1)) (st := st2_709) (e_st := show G707 70 = st2_709 from (e715)) (lg := lg2_710) (e_lg := show G707 79 = lg2_710 from (e716))  (h_fn := ⟨(by decide), (by decide)⟩) (h_v := ⟨(by omega), (by omega)⟩)  (p_0 := by omega) (p_1 := by omega)) (fun o V_q hq => ?_)
      obtain ⟨G737, A738, st2_739, lg2_740, rfl, rfl, hW741, hF742, hQ743, e744, e745, p746, p747, p748, p749, p750, p751, -⟩ := hq
      have hF753 := Fr_tr hF727 hF742 (Fr_sub (by decide)) (Fr_sub (by decide))
      have hC754 := Fx_tr hC728 hQ743 (by omega)
      have hAl755 := Fx_f hAl729 hF742 (by decide)
      have hBp756 := Fx_f hBp730 hF742 (by decide)
      have sf757 := FA_fr (hF742.2 51 rfl) sf731
      have sf758 := SA_fr (hF742.2 13 rfl) sf732
      have sf759 : PE 56 (upf La i r657) (b6) ((i + 1)) A738 := PE_fr (hF742.2 56 rfl) sf733
      have sf760 : PE 57 (fL T0 F nw n) (b6) ((i + 1)) A738 := PE_fr (hF742.2 57 rfl) sf734
      have bst2_739 : (-2147483648 : Int) ≤ st2_739 ∧ st2_739 ≤ 2147483647 := e744 ▸ hW741.1 70
      have blg2_740 : (0 : Int) ≤ lg2_740 ∧ lg2_740 ≤ 1 := e745 ▸ hW741.1 79
      refine .inl ⟨rfl, ?_⟩
      have sf761 : Cd (lg2_740 = 0 ∧ lb2_711 < 19999) (gP1 T0 A738 (La) (n) ((i).toNat) (le) (st) (st1) (lb + 1) (lb1)) := Cd_mk (fun hC => gP1_mv (Cg_fx (l0 := lb + 1) (l1 := lb1) hQ743 (Fx_f (w := lb1 + 1) Fx_rf hF742 (by decide)) (by omega)) (by omega) (Cd_ap sf735 (by omega)))
      have sf762 : Cd (lg2_740 = 0 ∧ lb2_711 < 19999) (PL A738 (st1) (st2_709) (r657) (lb2_658) (lb2_711)) := Cd_mk (fun hC => PL_mv (Cg_fx (l0 := lb2_658) (l1 := lb2_711) hQ743 (Fx_f (w := lb2_711 + 1) Fx_rf hF742 (by decide)) (by omega)) (by omega) (Cd_ap p725 (by omega)))
      have hBo763 : Cd (lg2_740 = 0 ∧ lb2_711 < 19999) (Fx [50] (lb + 1) A A738) := Cd_mk (fun hC => Fx_f (Cd_ap hBo736 (by omega)) hF742 (by decide))
      refine jx_ld (pc_q := 231) (l_q := L706) (st_q := [.ref 66]) rfl (jl_aloadn gL706_0) ?_
      refine jx_ld (pc_q := 233) (l_q := L706) (st_q := [.int (i32 (i)), .ref 66]) rfl (jl_iload gL706_9) ?_
      refine jx_if_ne (pc_q := 236) (tg := 255) rfl rfl rfl (Int.le_trans (by decide : (-2147483648 : Int) ≤ -2147483648) rx_i.1) (Int.le_trans rx_i.2 (by decide : (2147483647 : Int) ≤ 2147483647)) (fun h764 => ?_) (fun h764 => ?_)
      · have _q := h764
        refine jx_ar (pc_q := 257) (st_q := [.int (i32 (15)), .ref 66]) rfl rfl rfl rfl ?_
        refine jx_vr (pc_q := 260) (as := [.int (i32 (15))]) (st := []) rfl rfl rfl rfl ⟨rfl, rfl, Nat.le_of_ble_eq_true rfl⟩ rfl rfl (c_op (dd := d) (hd := by omega) (hW := hW741) (oo := 15) (st := st2_739) (e_st := show G737 70 = st2_739 from (e744)) (lg := lg2_740) (e_lg := show G737 79 = lg2_740 from (e745))  (h_oo := ⟨(by decide), (by decide)⟩)  (p_0 := by omega) (p_1 := by omega)) (fun o V_q hq => ?_)
        obtain ⟨G765, A766, st2_767, lg2_768, rfl, rfl, hW769, hF770, hQ771, e772, e773, p774, p775, p776, p777, p778, p779, -⟩ := hq
        have hF781 := Fr_tr hF753 hF770 (Fr_sub (by decide)) (Fr_sub (by decide))
        have hC782 := Fx_tr hC754 hQ771 (by omega)
        have hAl783 := Fx_f hAl755 hF770 (by decide)
        have hBp784 := Fx_f hBp756 hF770 (by decide)
        have sf785 := FA_fr (hF770.2 51 rfl) sf757
        have sf786 := SA_fr (hF770.2 13 rfl) sf758
        have sf787 : PE 56 (upf La i r657) (b6) ((i + 1)) A766 := PE_fr (hF770.2 56 rfl) sf759
        have sf788 : PE 57 (fL T0 F nw n) (b6) ((i + 1)) A766 := PE_fr (hF770.2 57 rfl) sf760
        have bst2_767 : (-2147483648 : Int) ≤ st2_767 ∧ st2_767 ≤ 2147483647 := e772 ▸ hW769.1 70
        have blg2_768 : (0 : Int) ≤ lg2_768 ∧ lg2_768 ≤ 1 := e773 ▸ hW769.1 79
        refine .inl ⟨rfl, ?_⟩
        have sf789 : Cd (lg2_768 = 0 ∧ lb2_711 < 19999) (gP1 T0 A766 (La) (n) ((i).toNat) (le) (st) (st1) (lb + 1) (lb1)) := Cd_mk (fun hC => gP1_mv (Cg_fx (l0 := lb + 1) (l1 := lb1) hQ771 (Fx_f (w := lb1 + 1) Fx_rf hF770 (by decide)) (by omega)) (by omega) (Cd_ap sf761 (by omega)))
        have sf790 : Cd (lg2_768 = 0 ∧ lb2_711 < 19999) (PL A766 (st1) (st2_709) (r657) (lb2_658) (lb2_711)) := Cd_mk (fun hC => PL_mv (Cg_fx (l0 := lb2_658) (l1 := lb2_711) hQ771 (Fx_f (w := lb2_711 + 1) Fx_rf hF770 (by decide)) (by omega)) (by omega) (Cd_ap sf762 (by omega)))
        have sf791 : Cd (lg2_768 = 0 ∧ lb2_711 < 19999) (ST A766 (st2_709) (st2_739) (1) (((fw1 - dp) - T0 26 (c).toNat) - fw1)) := Cd_mk (fun hC => ST_mv (Cg_fx (l0 := 0) (l1 := 0) hQ771 (Fx_f (w := 0 + 1) Fx_rf hF770 (by decide)) (by omega)) (by omega) (Cd_ap p751 (by omega)))
        have hBo792 : Cd (lg2_768 = 0 ∧ lb2_711 < 19999) (Fx [50] (lb + 1) A A766) := Cd_mk (fun hC => Fx_f (Cd_ap hBo763 (by omega)) hF770 (by decide))
        refine jx_ld (pc_q := 261) (l_q := L706) (st_q := [.int (i32 (1))]) rfl (jl_iloadn gL706_2) ?_
        refine jx_if_eq (pc_q := 264) (tg := 269) rfl rfl rfl (by decide) (by decide) (fun h793 => ?_) (fun h793 => ?_)
        · have _q := h793
          exact absurd h793 (by omega)
        · have _q := h793
          refine jx_ld (pc_q := 266) (l_q := L706) (st_q := [.int (i32 (c))]) rfl (jl_iload gL706_8) ?_
          refine jx_go (tg := 276) rfl rfl ?_
          refine jx_ld (pc_q := 278) (l_q := jSto1 L706 8 (.int (i32 (c)))) (st_q := []) rfl rfl ?_
          obtain ⟨L794, eL794⟩ : ∃ q, q = jSto1 L706 8 (.int (i32 (c))) := ⟨_, rfl⟩
          rw [← eL794]
          have gL794_0 : jGet L794 0 = some (.ref 66) := eL794 ▸ jg_ne (by decide) gL706_0 rfl
          have gL794_1 : jGet L794 1 = some (.int (i32 (n))) := eL794 ▸ jg_ne (by decide) gL706_1 rfl
          have gL794_2 : jGet L794 2 = some (.int (i32 (1))) := eL794 ▸ jg_ne (by decide) gL706_2 rfl
          have gL794_3 : jGet L794 3 = some (.int (i32 (w))) := eL794 ▸ jg_ne (by decide) gL706_3 rfl
          have gL794_4 : jGet L794 4 = some (.int (i32 (mn))) := eL794 ▸ jg_ne (by decide) gL706_4 rfl
          have gL794_5 : jGet L794 5 = some (.int (i32 (le))) := eL794 ▸ jg_ne (by decide) gL706_5 rfl
          have gL794_6 : jGet L794 6 = some (.int (i32 (b6))) := eL794 ▸ jg_ne (by decide) gL706_6 rfl
          have gL794_9 : jGet L794 9 = some (.int (i32 (i))) := eL794 ▸ jg_ne (by decide) gL706_9 rfl
          have gL794_7 : jGet L794 7 = some (.int (i32 ((((dp + T0 26 (c).toNat) + T0 27 (c).toNat) + 3)))) := eL794 ▸ jg_ne (by decide) gL706_7 rfl
          have gL794_8 : jGet L794 8 = some (.int (i32 (c))) := eL794 ▸ jg_eq
          refine jx_inc (pc_q := 281) (l_q := jSto1 L794 9 (.int (i32 ((i + (1)))))) (x := i) rfl gL794_9 (by decide) rfl rfl ?_
          obtain ⟨L795, eL795⟩ : ∃ q, q = jSto1 L794 9 (.int (i32 ((i + (1))))) := ⟨_, rfl⟩
          rw [← eL795]
          have gL795_0 : jGet L795 0 = some (.ref 66) := eL795 ▸ jg_ne (by decide) gL794_0 rfl
          have gL795_1 : jGet L795 1 = some (.int (i32 (n))) := eL795 ▸ jg_ne (by decide) gL794_1 rfl
          have gL795_2 : jGet L795 2 = some (.int (i32 (1))) := eL795 ▸ jg_ne (by decide) gL794_2 rfl
          have gL795_3 : jGet L795 3 = some (.int (i32 (w))) := eL795 ▸ jg_ne (by decide) gL794_3 rfl
          have gL795_4 : jGet L795 4 = some (.int (i32 (mn))) := eL795 ▸ jg_ne (by decide) gL794_4 rfl
          have gL795_5 : jGet L795 5 = some (.int (i32 (le))) := eL795 ▸ jg_ne (by decide) gL794_5 rfl
          have gL795_6 : jGet L795 6 = some (.int (i32 (b6))) := eL795 ▸ jg_ne (by decide) gL794_6 rfl
          have gL795_7 : jGet L795 7 = some (.int (i32 ((((dp + T0 26 (c).toNat) + T0 27 (c).toNat) + 3)))) := eL795 ▸ jg_ne (by decide) gL794_7 rfl
          have gL795_8 : jGet L795 8 = some (.int (i32 (c))) := eL795 ▸ jg_ne (by decide) gL794_8 rfl
          have gL795_9 : jGet L795 9 = some (.int (i32 ((i + (1))))) := eL795 ▸ jg_eq
          refine jx_go (tg := 118) rfl rfl ?_
          exact ih118_1 _ (by omega) L795 G765 A766 (w) (mn) (le) (b6) ((((dp + T0 26 (c).toNat) + T0 27 (c).toNat) + 3)) (c) ((i + (1))) (st2_767) (lg2_768) (lb2_711) (fw1) ((upf La i r657)) rfl gL795_0 gL795_1 gL795_2 gL795_3 gL795_4 gL795_5 gL795_6 gL795_7 gL795_8 gL795_9 hW769 hF781 hC782 hAl783 hBp784 (Cd_mk (fun hC => Cd_ap hBo792 (by omega))) ((e772)) ((e773)) (((hF770.1 77 rfl).trans ((hF742.1 77 rfl).trans (e717)))) ((congrFun ((hF770.2 51 rfl).trans ((hF742.2 51 rfl).trans ((hF713.2 51 rfl).trans (((congrFun eA692 51).trans (uA_ne (by decide))).trans (((congrFun eA678 51).trans (uA_ne (by decide))).trans (hF660.2 51 rfl)))))) _).trans (ex_fw1)) (((hF770.1 81 rfl).trans ((hF742.1 81 rfl).trans ((hF713.1 81 rfl).trans ((hF660.1 81 rfl).trans (fx_81)))))) (((hF770.1 89 rfl).trans ((hF742.1 89 rfl).trans ((hF713.1 89 rfl).trans ((hF660.1 89 rfl).trans (fx_89)))))) (by omega) (by omega) (by omega) (by omega) (by omega) (by omega) (by omega) (by omega) (by omega) (by omega) (by omega) (by omega) ((Cd_mk (fun hC => by have := Cd_ap iv_5 (by omega); omega))) (by omega) (by omega) (by omega) (by omega) (by omega) (by omega) (by omega) (by omega) (by omega) (by omega) (by omega) ((Cd_mk (fun hC => (by have hr := Cd_ap iv_17 (by omega); omega)))) (by omega) (sf785) (sf786) ((PE_i (by omega) sf787)) ((PE_i (by omega) sf788)) ((LBd_nx iv_23 (by omega) (by omega) (by omega))) ((Cd_mk (fun hC => (gP1_nx (by omega) (Cd_ap sf789 (by omega)) (by have hr := Cd_ap p666 (by omega); omega) (by omega) (PL_su (Cd_ap sf790 (by omega)) (by omega) (by omega)) (Cd_ap sf791 (by omega)) (Cd_ap p779 (by omega)) (by omega) (by unfold pri; first | exact (if_pos (by omega)).symm | exact (if_neg (by omega)).symm)))))
      · have _q := h764
        refine jx_ld (pc_q := 237) (l_q := L706) (st_q := [.int (i32 (1)), .ref 66]) rfl (jl_iloadn gL706_2) ?_
        refine jx_if_ne (pc_q := 240) (tg := 255) rfl rfl rfl (by decide) (by decide) (fun h796 => ?_) (fun h796 => ?_)
        · have _q := h796
          refine jx_ar (pc_q := 257) (st_q := [.int (i32 (15)), .ref 66]) rfl rfl rfl rfl ?_
          refine jx_vr (pc_q := 260) (as := [.int (i32 (15))]) (st := []) rfl rfl rfl rfl ⟨rfl, rfl, Nat.le_of_ble_eq_true rfl⟩ rfl rfl (c_op (dd := d) (hd := by omega) (hW := hW741) (oo := 15) (st := st2_739) (e_st := show G737 70 = st2_739 from (e744)) (lg := lg2_740) (e_lg := show G737 79 = lg2_740 from (e745))  (h_oo := ⟨(by decide), (by decide)⟩)  (p_0 := by omega) (p_1 := by omega)) (fun o V_q hq => ?_)
          obtain ⟨G797, A798, st2_799, lg2_800, rfl, rfl, hW801, hF802, hQ803, e804, e805, p806, p807, p808, p809, p810, p811, -⟩ := hq
          have hF813 := Fr_tr hF753 hF802 (Fr_sub (by decide)) (Fr_sub (by decide))
          have hC814 := Fx_tr hC754 hQ803 (by omega)
          have hAl815 := Fx_f hAl755 hF802 (by decide)
          have hBp816 := Fx_f hBp756 hF802 (by decide)
          have sf817 := FA_fr (hF802.2 51 rfl) sf757
          have sf818 := SA_fr (hF802.2 13 rfl) sf758
          have sf819 : PE 56 (upf La i r657) (b6) ((i + 1)) A798 := PE_fr (hF802.2 56 rfl) sf759
          have sf820 : PE 57 (fL T0 F nw n) (b6) ((i + 1)) A798 := PE_fr (hF802.2 57 rfl) sf760
          have bst2_799 : (-2147483648 : Int) ≤ st2_799 ∧ st2_799 ≤ 2147483647 := e804 ▸ hW801.1 70
          have blg2_800 : (0 : Int) ≤ lg2_800 ∧ lg2_800 ≤ 1 := e805 ▸ hW801.1 79
          refine .inl ⟨rfl, ?_⟩
          have sf821 : Cd (lg2_800 = 0 ∧ lb2_711 < 19999) (gP1 T0 A798 (La) (n) ((i).toNat) (le) (st) (st1) (lb + 1) (lb1)) := Cd_mk (fun hC => gP1_mv (Cg_fx (l0 := lb + 1) (l1 := lb1) hQ803 (Fx_f (w := lb1 + 1) Fx_rf hF802 (by decide)) (by omega)) (by omega) (Cd_ap sf761 (by omega)))
          have sf822 : Cd (lg2_800 = 0 ∧ lb2_711 < 19999) (PL A798 (st1) (st2_709) (r657) (lb2_658) (lb2_711)) := Cd_mk (fun hC => PL_mv (Cg_fx (l0 := lb2_658) (l1 := lb2_711) hQ803 (Fx_f (w := lb2_711 + 1) Fx_rf hF802 (by decide)) (by omega)) (by omega) (Cd_ap sf762 (by omega)))
          have sf823 : Cd (lg2_800 = 0 ∧ lb2_711 < 19999) (ST A798 (st2_709) (st2_739) (1) (((fw1 - dp) - T0 26 (c).toNat) - fw1)) := Cd_mk (fun hC => ST_mv (Cg_fx (l0 := 0) (l1 := 0) hQ803 (Fx_f (w := 0 + 1) Fx_rf hF802 (by decide)) (by omega)) (by omega) (Cd_ap p751 (by omega)))
          have hBo824 : Cd (lg2_800 = 0 ∧ lb2_711 < 19999) (Fx [50] (lb + 1) A A798) := Cd_mk (fun hC => Fx_f (Cd_ap hBo763 (by omega)) hF802 (by decide))
          refine jx_ld (pc_q := 261) (l_q := L706) (st_q := [.int (i32 (1))]) rfl (jl_iloadn gL706_2) ?_
          refine jx_if_eq (pc_q := 264) (tg := 269) rfl rfl rfl (by decide) (by decide) (fun h825 => ?_) (fun h825 => ?_)
          · have _q := h825
            exact absurd h825 (by omega)
          · have _q := h825
            refine jx_ld (pc_q := 266) (l_q := L706) (st_q := [.int (i32 (c))]) rfl (jl_iload gL706_8) ?_
            refine jx_go (tg := 276) rfl rfl ?_
            refine jx_ld (pc_q := 278) (l_q := jSto1 L706 8 (.int (i32 (c)))) (st_q := []) rfl rfl ?_
            obtain ⟨L826, eL826⟩ : ∃ q, q = jSto1 L706 8 (.int (i32 (c))) := ⟨_, rfl⟩
            rw [← eL826]
            have gL826_0 : jGet L826 0 = some (.ref 66) := eL826 ▸ jg_ne (by decide) gL706_0 rfl
            have gL826_1 : jGet L826 1 = some (.int (i32 (n))) := eL826 ▸ jg_ne (by decide) gL706_1 rfl
            have gL826_2 : jGet L826 2 = some (.int (i32 (1))) := eL826 ▸ jg_ne (by decide) gL706_2 rfl
            have gL826_3 : jGet L826 3 = some (.int (i32 (w))) := eL826 ▸ jg_ne (by decide) gL706_3 rfl
            have gL826_4 : jGet L826 4 = some (.int (i32 (mn))) := eL826 ▸ jg_ne (by decide) gL706_4 rfl
            have gL826_5 : jGet L826 5 = some (.int (i32 (le))) := eL826 ▸ jg_ne (by decide) gL706_5 rfl
            have gL826_6 : jGet L826 6 = some (.int (i32 (b6))) := eL826 ▸ jg_ne (by decide) gL706_6 rfl
            have gL826_9 : jGet L826 9 = some (.int (i32 (i))) := eL826 ▸ jg_ne (by decide) gL706_9 rfl
            have gL826_7 : jGet L826 7 = some (.int (i32 ((((dp + T0 26 (c).toNat) + T0 27 (c).toNat) + 3)))) := eL826 ▸ jg_ne (by decide) gL706_7 rfl
            have gL826_8 : jGet L826 8 = some (.int (i32 (c))) := eL826 ▸ jg_eq
            refine jx_inc (pc_q := 281) (l_q := jSto1 L826 9 (.int (i32 ((i + (1)))))) (x := i) rfl gL826_9 (by decide) rfl rfl ?_
            obtain ⟨L827, eL827⟩ : ∃ q, q = jSto1 L826 9 (.int (i32 ((i + (1))))) := ⟨_, rfl⟩
            rw [← eL827]
            have gL827_0 : jGet L827 0 = some (.ref 66) := eL827 ▸ jg_ne (by decide) gL826_0 rfl
            have gL827_1 : jGet L827 1 = some (.int (i32 (n))) := eL827 ▸ jg_ne (by decide) gL826_1 rfl
            have gL827_2 : jGet L827 2 = some (.int (i32 (1))) := eL827 ▸ jg_ne (by decide) gL826_2 rfl
            have gL827_3 : jGet L827 3 = some (.int (i32 (w))) := eL827 ▸ jg_ne (by decide) gL826_3 rfl
            have gL827_4 : jGet L827 4 = some (.int (i32 (mn))) := eL827 ▸ jg_ne (by decide) gL826_4 rfl
            have gL827_5 : jGet L827 5 = some (.int (i32 (le))) := eL827 ▸ jg_ne (by decide) gL826_5 rfl
            have gL827_6 : jGet L827 6 = some (.int (i32 (b6))) := eL827 ▸ jg_ne (by decide) gL826_6 rfl
            have gL827_7 : jGet L827 7 = some (.int (i32 ((((dp + T0 26 (c).toNat) + T0 27 (c).toNat) + 3)))) := eL827 ▸ jg_ne (by decide) gL826_7 rfl
            have gL827_8 : jGet L827 8 = some (.int (i32 (c))) := eL827 ▸ jg_ne (by decide) gL826_8 rfl
            have gL827_9 : jGet L827 9 = some (.int (i32 ((i + (1))))) := eL827 ▸ jg_eq
            refine jx_go (tg := 118) rfl rfl ?_
            exact ih118_1 _ (by omega) L827 G797 A798 (w) (mn) (le) (b6) ((((dp + T0 26 (c).toNat) + T0 27 (c).toNat) + 3)) (c) ((i + (1))) (st2_799) (lg2_800) (lb2_711) (fw1) ((upf La i r657)) rfl gL827_0 gL827_1 gL827_2 gL827_3 gL827_4 gL827_5 gL827_6 gL827_7 gL827_8 gL827_9 hW801 hF813 hC814 hAl815 hBp816 (Cd_mk (fun hC => Cd_ap hBo824 (by omega))) ((e804)) ((e805)) (((hF802.1 77 rfl).trans ((hF742.1 77 rfl).trans (e717)))) ((congrFun ((hF802.2 51 rfl).trans ((hF742.2 51 rfl).trans ((hF713.2 51 rfl).trans (((congrFun eA692 51).trans (uA_ne (by decide))).trans (((congrFun eA678 51).trans (uA_ne (by decide))).trans (hF660.2 51 rfl)))))) _).trans (ex_fw1)) (((hF802.1 81 rfl).trans ((hF742.1 81 rfl).trans ((hF713.1 81 rfl).trans ((hF660.1 81 rfl).trans (fx_81)))))) (((hF802.1 89 rfl).trans ((hF742.1 89 rfl).trans ((hF713.1 89 rfl).trans ((hF660.1 89 rfl).trans (fx_89)))))) (by omega) (by omega) (by omega) (by omega) (by omega) (by omega) (by omega) (by omega) (by omega) (by omega) (by omega) (by omega) ((Cd_mk (fun hC => by have := Cd_ap iv_5 (by omega); omega))) (by omega) (by omega) (by omega) (by omega) (by omega) (by omega) (by omega) (by omega) (by omega) (by omega) (by omega) ((Cd_mk (fun hC => (by have hr := Cd_ap iv_17 (by omega); omega)))) (by omega) (sf817) (sf818) ((PE_i (by omega) sf819)) ((PE_i (by omega) sf820)) ((LBd_nx iv_23 (by omega) (by omega) (by omega))) ((Cd_mk (fun hC => (gP1_nx (by omega) (Cd_ap sf821 (by omega)) (by have hr := Cd_ap p666 (by omega); omega) (by omega) (PL_su (Cd_ap sf822 (by omega)) (by omega) (by omega)) (Cd_ap sf823 (by omega)) (Cd_ap p811 (by omega)) (by omega) (by unfold pri; first | exact (if_pos (by omega)).symm | exact (if_neg (by omega)).symm)))))
        · have _q := h796
          exact absurd h796 (by omega)
set_option maxRecDepth 20000 in
set_option maxHeartbeats 4000000 in
theorem c_genPar {X : jX} {k : Nat} (hN : GN X k) {dd : Nat} {T0 : Nat → Nat → Int} {Q F Sn : Int → Int} {Vs : Nat → Prop} {sb pb : Int} {c0 c1 : jC} {G : Nat → Int} {A : Nat → Nat → Int} {T : jH} {n : Int} {hi s0 s1 D bd : Int} {st lg lb nw al fw : Int} (hd : 2 * k + 63 ≤ dd) (hW : Wk G A) (e_st : G 70 = st) (e_lg : G 79 = lg) (e_lb : G 77 = lb) (e_nw : G 81 = nw) (e_al : G 89 = al) (e_fw : A 51 (nw).toNat = fw) (h_n : (-2147483648 : Int) ≤ n ∧ n ≤ 2147483647) (p_0 : TA T0 A) (p_1 : FA F (nw) A) (p_2 : SA T0 Vs Sn A) (p_3 : VW T0 Vs (nw)) (p_4 : 0 ≤ nw) (p_5 : nw + (k : Int) + 1 ≤ 38) (p_6 : 0 ≤ al) (p_7 : al + (k : Int) + 1 ≤ 38) (p_8 : 0 ≤ st) (p_9 : st ≤ 7000) (p_10 : 0 ≤ lb) (p_11 : lb + bd + 7000 - st ≤ 1900000000) (p_12 : hi ≤ 6999) (p_13 : sb ≤ 202) (p_14 : 0 ≤ n) (p_15 : n < hi) (p_16 : 0 ≤ s0) (p_17 : s1 ≤ sb) (p_18 : KD T0 sb pb k Vs (n) (hi) (s0) (s1) (nw) (D)) (p_19 : VB (Vs) (s0)) (p_20 : T0 15 (n).toNat = 28 ∨ T0 15 (n).toNat = 29) (p_21 : 0 ≤ T0 25 (n).toNat) (p_22 : T0 25 (n).toNat + 3 ≤ 4000) (p_23 : WB (n) (hi) (bd)) (p_24 : 0 ≤ D) (p_25 : D ≤ 4000) (p_26 : -4000 ≤ fw - D) (p_27 : fw ≤ 0) (p_28 : pb ≤ 24) (p_29 : PV T0 pb) (p_30 : PA Q pb A) : wk X dd 358 [.ref 66, .int (i32 n)] (rV c0 c1 G A T) (fun o V_q => ∃ (G_q : Nat → Int) (A_q : Nat → Nat → Int) (st2 : Int) (lg2 : Int) (lb2 : Int) (nw2 : Int) (al2 : Int) (fw2 : Int), V_q = rV c0 c1 G_q A_q T ∧ o = .inl none ∧ Wk G_q A_q ∧ Fr [70, 77, 79, 81, 89] [13, 44, 45, 46, 47, 50, 51, 56, 57, 58] G A G_q A_q ∧ Fx [44, 45, 46, 47] (st) A A_q ∧ Fx [58] (8 * al) A A_q ∧ Fx [56, 57] (8 * nw) A A_q ∧ G_q 70 = st2 ∧ G_q 79 = lg2 ∧ G_q 77 = lb2 ∧ G_q 81 = nw2 ∧ G_q 89 = al2 ∧ A_q 51 (nw).toNat = fw2 ∧ (st ≤ st2) ∧ (st2 ≤ 7000) ∧ (lg ≤ lg2) ∧ (lg2 ≤ 1) ∧ (lb ≤ lb2) ∧ (Cd (lg2 = 0) (lb2 - lb ≤ st2 - st)) ∧ (lb2 - lb ≤ st2 - st + bd) ∧ (Cd (lg2 = 0 ∧ lb2 < 19999) (Fx [50] (lb + 1) A A_q)) ∧ (nw2 = nw) ∧ (al2 = al) ∧ (fw2 = fw) ∧ (FA F (nw) A_q) ∧ (SA T0 Vs Sn A_q) ∧ (Cd (lg2 = 0 ∧ lb2 < 19999) (gPa T0 A_q (gP T0 A_q Q k) F Sn nw (n) (st) (st2) (lb) (lb2))) ∧ True) := by
  obtain ⟨d, rfl⟩ : ∃ d, dd = d + 1 := ⟨dd - 1, by omega⟩
  refine wk_of (e := jm358) rfl (Nat.le_of_ble_eq_true rfl) ?_
  show wj X d jm358 (0, [(0, .ref 66), (1, .int (i32 (n)))], [], rV c0 c1 G A T) _
  have hF0 : Fr [70, 77, 79, 81, 89] [13, 44, 45, 46, 47, 50, 51, 56, 57, 58] G A G A := Fr_rf
  have hC0 : Fx [44, 45, 46, 47] (st) A A := Fx_rf
  have hAl0 : Fx [58] (8 * al) A A := Fx_rf
  have hBp0 : Fx [56, 57] (8 * nw) A A := Fx_rf
  have b_st : (-2147483648 : Int) ≤ st ∧ st ≤ 2147483647 := e_st ▸ hW.1 70
  have b_lg : (0 : Int) ≤ lg ∧ lg ≤ 1 := e_lg ▸ hW.1 79
  have b_lb : (-2147483648 : Int) ≤ lb ∧ lb ≤ 2147483647 := e_lb ▸ hW.1 77
  have b_nw : (-2147483648 : Int) ≤ nw ∧ nw ≤ 2147483647 := e_nw ▸ hW.1 81
  have b_al : (-2147483648 : Int) ≤ al ∧ al ≤ 2147483647 := e_al ▸ hW.1 89
  have b_fw : (-2147483648 : Int) ≤ fw ∧ fw ≤ 2147483647 := e_fw ▸ hW.2 51 _
  have hWT := TA_w hW p_0
  have hBo0 : Cd (lg = 0 ∧ lb < 19999) (Fx [50] (lb + 1) A A) := Cd_mk (fun _ => Fx_rf)
  have hfw := FA_at p_1 p_4 e_fw
  have hKD := p_18; obtain ⟨hk1, hk2, hk3, hk4⟩ := hKD
  have hbp := WB_p p_23 (by omega) (by omega) (by omega)
  refine jx_ld (pc_q := 1) (l_q := [(0, .ref 66), (1, .int (i32 (n)))]) (st_q := [.ref 66]) rfl (jl_aloadn rfl) ?_
  refine jr_get (pc_q := 4) (i := 32) (v := .ref 82) rfl rfl (by decide) rfl rfl ?_
  refine jx_ld (pc_q := 5) (l_q := [(0, .ref 66), (1, .int (i32 (n)))]) (st_q := [.int (i32 (n)), .ref 82]) rfl (jl_iloadn rfl) ?_
  have b828 : (0 : Int) ≤ T0 15 (n).toNat ∧ T0 15 (n).toNat ≤ 34 := hWT.2 15 _
  refine jr_ldv (pc_q := 6) (i := 15) (m := 7000) (z := n) (y := T0 15 (n).toNat) rfl (by decide) rfl (by decide) (by omega) (by omega) rfl (show A 15 (n).toNat = T0 15 (n).toNat from (congrFun (p_0 15 rfl) _)) ?_
  refine jx_ar (pc_q := 8) (st_q := [.int (i32 (29)), .int (i32 (T0 15 (n).toNat))]) rfl rfl rfl rfl ?_
  refine jx_icmp_ne (pc_q := 11) (tg := 15) rfl rfl rfl (Int.le_trans (by decide : (-2147483648 : Int) ≤ 0) b828.1) (Int.le_trans b828.2 (by decide : (34 : Int) ≤ 2147483647)) (by decide) (by decide) (fun h829 => ?_) (fun h829 => ?_)
  · have _q := h829
    refine jx_ar (pc_q := 16) (st_q := [.int (i32 (0))]) rfl rfl rfl rfl ?_
    refine jx_ld (pc_q := 17) (l_q := jSto1 [(0, .ref 66), (1, .int (i32 (n)))] 2 (.int (i32 (0)))) (st_q := []) rfl rfl ?_
    obtain ⟨L830, eL830⟩ : ∃ q, q = jSto1 [(0, .ref 66), (1, .int (i32 (n)))] 2 (.int (i32 (0))) := ⟨_, rfl⟩
    rw [← eL830]
    have gL830_0 : jGet L830 0 = some (.ref 66) := eL830 ▸ jg_ne (by decide) (rfl : jGet [(0, .ref 66), (1, .int (i32 (n)))] 0 = some (.ref 66)) rfl
    have gL830_1 : jGet L830 1 = some (.int (i32 (n))) := eL830 ▸ jg_ne (by decide) (rfl : jGet [(0, .ref 66), (1, .int (i32 (n)))] 1 = some (.int (i32 (n)))) rfl
    have gL830_2 : jGet L830 2 = some (.int (i32 (0))) := eL830 ▸ jg_eq
    refine jx_ld (pc_q := 18) (l_q := L830) (st_q := [.ref 66]) rfl (jl_aloadn gL830_0) ?_
    refine jr_get (pc_q := 21) (i := 42) (v := .ref 92) rfl rfl (by decide) rfl rfl ?_
    refine jx_ld (pc_q := 22) (l_q := L830) (st_q := [.int (i32 (n)), .ref 92]) rfl (jl_iloadn gL830_1) ?_
    have b831 : (-2147483648 : Int) ≤ T0 25 (n).toNat ∧ T0 25 (n).toNat ≤ 2147483647 := hWT.2 25 _
    refine jr_ldv (pc_q := 23) (i := 25) (m := 7000) (z := n) (y := T0 25 (n).toNat) rfl (by decide) rfl (by decide) (by omega) (by omega) rfl (show A 25 (n).toNat = T0 25 (n).toNat from (congrFun (p_0 25 rfl) _)) ?_
    refine jx_ld (pc_q := 24) (l_q := jSto1 L830 3 (.int (i32 (T0 25 (n).toNat)))) (st_q := []) rfl rfl ?_
    obtain ⟨L832, eL832⟩ : ∃ q, q = jSto1 L830 3 (.int (i32 (T0 25 (n).toNat))) := ⟨_, rfl⟩
    rw [← eL832]
    have gL832_0 : jGet L832 0 = some (.ref 66) := eL832 ▸ jg_ne (by decide) gL830_0 rfl
    have gL832_1 : jGet L832 1 = some (.int (i32 (n))) := eL832 ▸ jg_ne (by decide) gL830_1 rfl
    have gL832_2 : jGet L832 2 = some (.int (i32 (0))) := eL832 ▸ jg_ne (by decide) gL830_2 rfl
    have gL832_3 : jGet L832 3 = some (.int (i32 (T0 25 (n).toNat))) := eL832 ▸ jg_eq
    refine jx_ld (pc_q := 25) (l_q := L832) (st_q := [.int (i32 (0))]) rfl (jl_iloadn gL832_2) ?_
    refine jx_if_eq (pc_q := 28) (tg := 37) rfl rfl rfl (by decide) (by decide) (fun h833 => ?_) (fun h833 => ?_)
    · have _q := h833
      refine jx_ld (pc_q := 38) (l_q := L832) (st_q := [.ref 66]) rfl (jl_aloadn gL832_0) ?_
      refine jr_get (pc_q := 41) (i := 35) (v := .ref 85) rfl rfl (by decide) rfl rfl ?_
      refine jx_ld (pc_q := 42) (l_q := L832) (st_q := [.int (i32 (n)), .ref 85]) rfl (jl_iloadn gL832_1) ?_
      have b834 : (-2147483648 : Int) ≤ T0 18 (n).toNat ∧ T0 18 (n).toNat ≤ 2147483647 := hWT.2 18 _
      refine jr_ldv (pc_q := 43) (i := 18) (m := 7000) (z := n) (y := T0 18 (n).toNat) rfl (by decide) rfl (by decide) (by omega) (by omega) rfl (show A 18 (n).toNat = T0 18 (n).toNat from (congrFun (p_0 18 rfl) _)) ?_
      refine jx_ld (pc_q := 45) (l_q := jSto1 L832 4 (.int (i32 (T0 18 (n).toNat)))) (st_q := []) rfl rfl ?_
      obtain ⟨L835, eL835⟩ : ∃ q, q = jSto1 L832 4 (.int (i32 (T0 18 (n).toNat))) := ⟨_, rfl⟩
      rw [← eL835]
      have gL835_0 : jGet L835 0 = some (.ref 66) := eL835 ▸ jg_ne (by decide) gL832_0 rfl
      have gL835_1 : jGet L835 1 = some (.int (i32 (n))) := eL835 ▸ jg_ne (by decide) gL832_1 rfl
      have gL835_2 : jGet L835 2 = some (.int (i32 (0))) := eL835 ▸ jg_ne (by decide) gL832_2 rfl
      have gL835_3 : jGet L835 3 = some (.int (i32 (T0 25 (n).toNat))) := eL835 ▸ jg_ne (by decide) gL832_3 rfl
      have gL835_4 : jGet L835 4 = some (.int (i32 (T0 18 (n).toNat))) := eL835 ▸ jg_eq
      refine jx_ld (pc_q := 46) (l_q := L835) (st_q := [.ref 66]) rfl (jl_aloadn gL835_0) ?_
      refine jx_vr (pc_q := 49) (as := []) (st := []) rfl rfl rfl rfl ⟨rfl, rfl, Nat.le_of_ble_eq_true rfl⟩ rfl rfl (c_label (dd := d) (hd := by omega) (hW := hW)  (lb := lb) (e_lb := show G 77 = lb from (e_lb))    (p_0 := by omega) (p_1 := by omega)) (fun o V_q hq => ?_)
      obtain ⟨G836, A837, r838, lb2_839, rfl, rfl, hW840, hF841, b842, e843, p844, p845, p846, p847, -⟩ := hq
      have hF849 := Fr_tr hF0 hF841 (Fr_sub (by decide)) (Fr_sub (by decide))
      have hC850 := Fx_f hC0 hF841 (by decide)
      have hAl851 := Fx_f hAl0 hF841 (by decide)
      have hBp852 := Fx_f hBp0 hF841 (by decide)
      have sf853 := FA_fr (hF841.2 51 rfl) p_1
      have sf854 := SA_fr (hF841.2 13 rfl) p_2
      have blb2_839 : (-2147483648 : Int) ≤ lb2_839 ∧ lb2_839 ≤ 2147483647 := e843 ▸ hW840.1 77
      refine .inr ⟨_, rfl, ?_⟩
      have hBo855 : Cd (lg = 0 ∧ lb2_839 < 19999) (Fx [50] (lb + 1) A A837) := Cd_mk (fun hC => Fx_f (Cd_ap hBo0 (by omega)) hF841 (by decide))
      refine jx_ld (pc_q := 51) (l_q := jSto1 L835 5 (.int (i32 (r838)))) (st_q := []) rfl rfl ?_
      obtain ⟨L856, eL856⟩ : ∃ q, q = jSto1 L835 5 (.int (i32 (r838))) := ⟨_, rfl⟩
      rw [← eL856]
      have gL856_0 : jGet L856 0 = some (.ref 66) := eL856 ▸ jg_ne (by decide) gL835_0 rfl
      have gL856_1 : jGet L856 1 = some (.int (i32 (n))) := eL856 ▸ jg_ne (by decide) gL835_1 rfl
      have gL856_2 : jGet L856 2 = some (.int (i32 (0))) := eL856 ▸ jg_ne (by decide) gL835_2 rfl
      have gL856_3 : jGet L856 3 = some (.int (i32 (T0 25 (n).toNat))) := eL856 ▸ jg_ne (by decide) gL835_3 rfl
      have gL856_4 : jGet L856 4 = some (.int (i32 (T0 18 (n).toNat))) := eL856 ▸ jg_ne (by decide) gL835_4 rfl
      have gL856_5 : jGet L856 5 = some (.int (i32 (r838))) := eL856 ▸ jg_eq
      refine jx_ar (pc_q := 53) (st_q := [.int (i32 (8))]) rfl rfl rfl rfl ?_
      refine jx_ld (pc_q := 54) (l_q := L856) (st_q := [.ref 66, .int (i32 (8))]) rfl (jl_aloadn gL856_0) ?_
      refine jr_get (pc_q := 57) (i := 81) (v := .int (i32 (nw))) rfl rfl (by decide) (rFv_eq (by decide) (show G836 81 = nw from ((hF841.1 81 rfl).trans (e_nw)))) rfl ?_
      refine jx_mul (pc_q := 58) rfl rfl ?_
      refine jx_ld (pc_q := 60) (l_q := jSto1 L856 6 (.int (i32 ((8 * nw))))) (st_q := []) rfl rfl ?_
      obtain ⟨L857, eL857⟩ : ∃ q, q = jSto1 L856 6 (.int (i32 ((8 * nw)))) := ⟨_, rfl⟩
      rw [← eL857]
      have gL857_0 : jGet L857 0 = some (.ref 66) := eL857 ▸ jg_ne (by decide) gL856_0 rfl
      have gL857_1 : jGet L857 1 = some (.int (i32 (n))) := eL857 ▸ jg_ne (by decide) gL856_1 rfl
      have gL857_2 : jGet L857 2 = some (.int (i32 (0))) := eL857 ▸ jg_ne (by decide) gL856_2 rfl
      have gL857_3 : jGet L857 3 = some (.int (i32 (T0 25 (n).toNat))) := eL857 ▸ jg_ne (by decide) gL856_3 rfl
      have gL857_4 : jGet L857 4 = some (.int (i32 (T0 18 (n).toNat))) := eL857 ▸ jg_ne (by decide) gL856_4 rfl
      have gL857_5 : jGet L857 5 = some (.int (i32 (r838))) := eL857 ▸ jg_ne (by decide) gL856_5 rfl
      have gL857_6 : jGet L857 6 = some (.int (i32 ((8 * nw)))) := eL857 ▸ jg_eq
      refine jx_ld (pc_q := 61) (l_q := L857) (st_q := [.ref 66]) rfl (jl_aloadn gL857_0) ?_
      refine jx_ld (pc_q := 63) (l_q := L857) (st_q := [.int (i32 (r838)), .ref 66]) rfl (jl_iload gL857_5) ?_
      refine jx_vr (pc_q := 66) (as := [.int (i32 (r838))]) (st := []) rfl rfl rfl rfl ⟨rfl, rfl, Nat.le_of_ble_eq_true rfl⟩ rfl rfl (c_place (dd := d) (hd := by omega) (hW := hW840) (to := r838) (st := st) (e_st := show G836 70 = st from ((hF841.1 70 rfl).trans (e_st))) (lg := lg) (e_lg := show G836 79 = lg from ((hF841.1 79 rfl).trans (e_lg))) (lb := lb2_839) (e_lb := show G836 77 = lb2_839 from (e843))  (h_to := ⟨(Int.le_trans (by decide : (-2147483648 : Int) ≤ -2147483648) b842.1), (Int.le_trans b842.2 (by decide : (2147483647 : Int) ≤ 2147483647))⟩)  (p_0 := by omega) (p_1 := by omega) (p_2 := by omega) (p_3 := by omega)) (fun o V_q hq => ?_)
      obtain ⟨G858, A859, st2_860, lg2_861, lb2_862, rfl, rfl, hW863, hF864, hQ865, e866, e867, e868, p869, p870, p871, p872, p873, p874, p875, p876, -⟩ := hq
      have hF878 := Fr_tr hF849 hF864 (Fr_sub (by decide)) (Fr_sub (by decide))
      have hC879 := Fx_tr hC850 hQ865 (by omega)
      have hAl880 := Fx_f hAl851 hF864 (by decide)
      have hBp881 := Fx_f hBp852 hF864 (by decide)
      have sf882 := FA_fr (hF864.2 51 rfl) sf853
      have sf883 := SA_fr (hF864.2 13 rfl) sf854
      have bst2_860 : (-2147483648 : Int) ≤ st2_860 ∧ st2_860 ≤ 2147483647 := e866 ▸ hW863.1 70
      have blg2_861 : (0 : Int) ≤ lg2_861 ∧ lg2_861 ≤ 1 := e867 ▸ hW863.1 79
      have blb2_862 : (-2147483648 : Int) ≤ lb2_862 ∧ lb2_862 ≤ 2147483647 := e868 ▸ hW863.1 77
      refine .inl ⟨rfl, ?_⟩
      have hBo884 : Cd (lg2_861 = 0 ∧ lb2_862 < 19999) (Fx [50] (lb + 1) A A859) := Cd_mk (fun hC => Fx_tr (Cd_ap hBo855 (by omega)) (Cd_ap p875 (by omega)) (by omega))
      refine jx_ld (pc_q := 67) (l_q := L857) (st_q := [.ref 66]) rfl (jl_aloadn gL857_0) ?_
      refine jx_ar (pc_q := 69) (st_q := [.int (i32 (13)), .ref 66]) rfl rfl rfl rfl ?_
      refine jx_ld (pc_q := 70) (l_q := L857) (st_q := [.int (i32 (T0 25 (n).toNat)), .int (i32 (13)), .ref 66]) rfl (jl_iloadn gL857_3) ?_
      refine jx_vr (pc_q := 73) (as := [.int (i32 (13)), .int (i32 (T0 25 (n).toNat))]) (st := []) rfl rfl rfl rfl ⟨rfl, rfl, Nat.le_of_ble_eq_true rfl⟩ rfl rfl (c_emit (dd := d) (hd := by omega) (hW := hW863) (fn := 13) (v := T0 25 (n).toNat) (st := st2_860) (e_st := show G858 70 = st2_860 from (e866)) (lg := lg2_861) (e_lg := show G858 79 = lg2_861 from (e867))  (h_fn := ⟨(by decide), (by decide)⟩) (h_v := ⟨(Int.le_trans (by decide : (-2147483648 : Int) ≤ -2147483648) b831.1), (Int.le_trans b831.2 (by decide : (2147483647 : Int) ≤ 2147483647))⟩)  (p_0 := by omega) (p_1 := by omega)) (fun o V_q hq => ?_)
      obtain ⟨G885, A886, st2_887, lg2_888, rfl, rfl, hW889, hF890, hQ891, e892, e893, p894, p895, p896, p897, p898, p899, -⟩ := hq
      have hF901 := Fr_tr hF878 hF890 (Fr_sub (by decide)) (Fr_sub (by decide))
      have hC902 := Fx_tr hC879 hQ891 (by omega)
      have hAl903 := Fx_f hAl880 hF890 (by decide)
      have hBp904 := Fx_f hBp881 hF890 (by decide)
      have sf905 := FA_fr (hF890.2 51 rfl) sf882
      have sf906 := SA_fr (hF890.2 13 rfl) sf883
      have bst2_887 : (-2147483648 : Int) ≤ st2_887 ∧ st2_887 ≤ 2147483647 := e892 ▸ hW889.1 70
      have blg2_888 : (0 : Int) ≤ lg2_888 ∧ lg2_888 ≤ 1 := e893 ▸ hW889.1 79
      refine .inl ⟨rfl, ?_⟩
      have sf907 : Cd (lg2_888 = 0 ∧ lb2_862 < 19999) (PL A886 (st) (st2_860) (r838) (lb2_839) (lb2_862)) := Cd_mk (fun hC => PL_mv (Cg_fx (l0 := lb2_839) (l1 := lb2_862) hQ891 (Fx_f (w := lb2_862 + 1) Fx_rf hF890 (by decide)) (by omega)) (by omega) (Cd_ap p876 (by omega)))
      have hBo908 : Cd (lg2_888 = 0 ∧ lb2_862 < 19999) (Fx [50] (lb + 1) A A886) := Cd_mk (fun hC => Fx_f (Cd_ap hBo884 (by omega)) hF890 (by decide))
      refine jx_ld (pc_q := 74) (l_q := L857) (st_q := [.ref 66]) rfl (jl_aloadn gL857_0) ?_
      refine jx_ar (pc_q := 75) (st_q := [.int (i32 (4)), .ref 66]) rfl rfl rfl rfl ?_
      refine jx_ld (pc_q := 77) (l_q := L857) (st_q := [.int (i32 (T0 18 (n).toNat)), .int (i32 (4)), .ref 66]) rfl (jl_iload gL857_4) ?_
      refine jx_vr (pc_q := 80) (as := [.int (i32 (4)), .int (i32 (T0 18 (n).toNat))]) (st := []) rfl rfl rfl rfl ⟨rfl, rfl, Nat.le_of_ble_eq_true rfl⟩ rfl rfl (c_emit (dd := d) (hd := by omega) (hW := hW889) (fn := 4) (v := T0 18 (n).toNat) (st := st2_887) (e_st := show G885 70 = st2_887 from (e892)) (lg := lg2_888) (e_lg := show G885 79 = lg2_888 from (e893))  (h_fn := ⟨(by decide), (by decide)⟩) (h_v := ⟨(Int.le_trans (by decide : (-2147483648 : Int) ≤ -2147483648) b834.1), (Int.le_trans b834.2 (by decide : (2147483647 : Int) ≤ 2147483647))⟩)  (p_0 := by omega) (p_1 := by omega)) (fun o V_q hq => ?_)
      obtain ⟨G909, A910, st2_911, lg2_912, rfl, rfl, hW913, hF914, hQ915, e916, e917, p918, p919, p920, p921, p922, p923, -⟩ := hq
      have hF925 := Fr_tr hF901 hF914 (Fr_sub (by decide)) (Fr_sub (by decide))
      have hC926 := Fx_tr hC902 hQ915 (by omega)
      have hAl927 := Fx_f hAl903 hF914 (by decide)
      have hBp928 := Fx_f hBp904 hF914 (by decide)
      have sf929 := FA_fr (hF914.2 51 rfl) sf905
      have sf930 := SA_fr (hF914.2 13 rfl) sf906
      have bst2_911 : (-2147483648 : Int) ≤ st2_911 ∧ st2_911 ≤ 2147483647 := e916 ▸ hW913.1 70
      have blg2_912 : (0 : Int) ≤ lg2_912 ∧ lg2_912 ≤ 1 := e917 ▸ hW913.1 79
      refine .inl ⟨rfl, ?_⟩
      have sf931 : Cd (lg2_912 = 0 ∧ lb2_862 < 19999) (PL A910 (st) (st2_860) (r838) (lb2_839) (lb2_862)) := Cd_mk (fun hC => PL_mv (Cg_fx (l0 := lb2_839) (l1 := lb2_862) hQ915 (Fx_f (w := lb2_862 + 1) Fx_rf hF914 (by decide)) (by omega)) (by omega) (Cd_ap sf907 (by omega)))
      have sf932 : Cd (lg2_912 = 0 ∧ lb2_862 < 19999) (ST A910 (st2_860) (st2_887) (13) (T0 25 (n).toNat)) := Cd_mk (fun hC => ST_mv (Cg_fx (l0 := 0) (l1 := 0) hQ915 (Fx_f (w := 0 + 1) Fx_rf hF914 (by decide)) (by omega)) (by omega) (Cd_ap p899 (by omega)))
      have hBo933 : Cd (lg2_912 = 0 ∧ lb2_862 < 19999) (Fx [50] (lb + 1) A A910) := Cd_mk (fun hC => Fx_f (Cd_ap hBo908 (by omega)) hF914 (by decide))
      refine jx_ld (pc_q := 81) (l_q := L857) (st_q := [.ref 66]) rfl (jl_aloadn gL857_0) ?_
      refine jx_ar (pc_q := 83) (st_q := [.int (i32 (13)), .ref 66]) rfl rfl rfl rfl ?_
      refine jx_ld (pc_q := 84) (l_q := L857) (st_q := [.int (i32 (T0 25 (n).toNat)), .int (i32 (13)), .ref 66]) rfl (jl_iloadn gL857_3) ?_
      refine jx_ar (pc_q := 85) (st_q := [.int (i32 (1)), .int (i32 (T0 25 (n).toNat)), .int (i32 (13)), .ref 66]) rfl rfl rfl rfl ?_
      refine jx_add (pc_q := 86) rfl rfl ?_
      refine jx_vr (pc_q := 89) (as := [.int (i32 (13)), .int (i32 ((T0 25 (n).toNat + 1)))]) (st := []) rfl rfl rfl rfl ⟨rfl, rfl, Nat.le_of_ble_eq_true rfl⟩ rfl rfl (c_emit (dd := d) (hd := by omega) (hW := hW913) (fn := 13) (v := (T0 25 (n).toNat + 1)) (st := st2_911) (e_st := show G909 70 = st2_911 from (e916)) (lg := lg2_912) (e_lg := show G909 79 = lg2_912 from (e917))  (h_fn := ⟨(by decide), (by decide)⟩) (h_v := ⟨(by omega), (by omega)⟩)  (p_0 := by omega) (p_1 := by omega)) (fun o V_q hq => ?_)
      obtain ⟨G934, A935, st2_936, lg2_937, rfl, rfl, hW938, hF939, hQ940, e941, e942, p943, p944, p945, p946, p947, p948, -⟩ := hq
      have hF950 := Fr_tr hF925 hF939 (Fr_sub (by decide)) (Fr_sub (by decide))
      have hC951 := Fx_tr hC926 hQ940 (by omega)
      have hAl952 := Fx_f hAl927 hF939 (by decide)
      have hBp953 := Fx_f hBp928 hF939 (by decide)
      have sf954 := FA_fr (hF939.2 51 rfl) sf929
      have sf955 := SA_fr (hF939.2 13 rfl) sf930
      have bst2_936 : (-2147483648 : Int) ≤ st2_936 ∧ st2_936 ≤ 2147483647 := e941 ▸ hW938.1 70
      have blg2_937 : (0 : Int) ≤ lg2_937 ∧ lg2_937 ≤ 1 := e942 ▸ hW938.1 79
      refine .inl ⟨rfl, ?_⟩
      have sf956 : Cd (lg2_937 = 0 ∧ lb2_862 < 19999) (PL A935 (st) (st2_860) (r838) (lb2_839) (lb2_862)) := Cd_mk (fun hC => PL_mv (Cg_fx (l0 := lb2_839) (l1 := lb2_862) hQ940 (Fx_f (w := lb2_862 + 1) Fx_rf hF939 (by decide)) (by omega)) (by omega) (Cd_ap sf931 (by omega)))
      have sf957 : Cd (lg2_937 = 0 ∧ lb2_862 < 19999) (ST A935 (st2_860) (st2_887) (13) (T0 25 (n).toNat)) := Cd_mk (fun hC => ST_mv (Cg_fx (l0 := 0) (l1 := 0) hQ940 (Fx_f (w := 0 + 1) Fx_rf hF939 (by decide)) (by omega)) (by omega) (Cd_ap sf932 (by omega)))
      have sf958 : Cd (lg2_937 = 0 ∧ lb2_862 < 19999) (ST A935 (st2_887) (st2_911) (4) (T0 18 (n).toNat)) := Cd_mk (fun hC => ST_mv (Cg_fx (l0 := 0) (l1 := 0) hQ940 (Fx_f (w := 0 + 1) Fx_rf hF939 (by decide)) (by omega)) (by omega) (Cd_ap p923 (by omega)))
      have hBo959 : Cd (lg2_937 = 0 ∧ lb2_862 < 19999) (Fx [50] (lb + 1) A A935) := Cd_mk (fun hC => Fx_f (Cd_ap hBo933 (by omega)) hF939 (by decide))
      refine jx_ld (pc_q := 90) (l_q := L857) (st_q := [.ref 66]) rfl (jl_aloadn gL857_0) ?_
      refine jx_ar (pc_q := 92) (st_q := [.int (i32 (30)), .ref 66]) rfl rfl rfl rfl ?_
      refine jx_vr (pc_q := 95) (as := [.int (i32 (30))]) (st := []) rfl rfl rfl rfl ⟨rfl, rfl, Nat.le_of_ble_eq_true rfl⟩ rfl rfl (c_op (dd := d) (hd := by omega) (hW := hW938) (oo := 30) (st := st2_936) (e_st := show G934 70 = st2_936 from (e941)) (lg := lg2_937) (e_lg := show G934 79 = lg2_937 from (e942))  (h_oo := ⟨(by decide), (by decide)⟩)  (p_0 := by omega) (p_1 := by omega)) (fun o V_q hq => ?_)
      obtain ⟨G960, A961, st2_962, lg2_963, rfl, rfl, hW964, hF965, hQ966, e967, e968, p969, p970, p971, p972, p973, p974, -⟩ := hq
      have hF976 := Fr_tr hF950 hF965 (Fr_sub (by decide)) (Fr_sub (by decide))
      have hC977 := Fx_tr hC951 hQ966 (by omega)
      have hAl978 := Fx_f hAl952 hF965 (by decide)
      have hBp979 := Fx_f hBp953 hF965 (by decide)
      have sf980 := FA_fr (hF965.2 51 rfl) sf954
      have sf981 := SA_fr (hF965.2 13 rfl) sf955
      have bst2_962 : (-2147483648 : Int) ≤ st2_962 ∧ st2_962 ≤ 2147483647 := e967 ▸ hW964.1 70
      have blg2_963 : (0 : Int) ≤ lg2_963 ∧ lg2_963 ≤ 1 := e968 ▸ hW964.1 79
      refine .inl ⟨rfl, ?_⟩
      have sf982 : Cd (lg2_963 = 0 ∧ lb2_862 < 19999) (PL A961 (st) (st2_860) (r838) (lb2_839) (lb2_862)) := Cd_mk (fun hC => PL_mv (Cg_fx (l0 := lb2_839) (l1 := lb2_862) hQ966 (Fx_f (w := lb2_862 + 1) Fx_rf hF965 (by decide)) (by omega)) (by omega) (Cd_ap sf956 (by omega)))
      have sf983 : Cd (lg2_963 = 0 ∧ lb2_862 < 19999) (ST A961 (st2_860) (st2_887) (13) (T0 25 (n).toNat)) := Cd_mk (fun hC => ST_mv (Cg_fx (l0 := 0) (l1 := 0) hQ966 (Fx_f (w := 0 + 1) Fx_rf hF965 (by decide)) (by omega)) (by omega) (Cd_ap sf957 (by omega)))
      have sf984 : Cd (lg2_963 = 0 ∧ lb2_862 < 19999) (ST A961 (st2_887) (st2_911) (4) (T0 18 (n).toNat)) := Cd_mk (fun hC => ST_mv (Cg_fx (l0 := 0) (l1 := 0) hQ966 (Fx_f (w := 0 + 1) Fx_rf hF965 (by decide)) (by omega)) (by omega) (Cd_ap sf958 (by omega)))
      have sf985 : Cd (lg2_963 = 0 ∧ lb2_862 < 19999) (ST A961 (st2_911) (st2_936) (13) (T0 25 (n).toNat + 1)) := Cd_mk (fun hC => ST_mv (Cg_fx (l0 := 0) (l1 := 0) hQ966 (Fx_f (w := 0 + 1) Fx_rf hF965 (by decide)) (by omega)) (by omega) (Cd_ap p948 (by omega)))
      have hBo986 : Cd (lg2_963 = 0 ∧ lb2_862 < 19999) (Fx [50] (lb + 1) A A961) := Cd_mk (fun hC => Fx_f (Cd_ap hBo959 (by omega)) hF965 (by decide))
      refine jx_ld (pc_q := 96) (l_q := L857) (st_q := [.ref 66]) rfl (jl_aloadn gL857_0) ?_
      refine jx_ar (pc_q := 98) (st_q := [.int (i32 (13)), .ref 66]) rfl rfl rfl rfl ?_
      refine jx_ld (pc_q := 99) (l_q := L857) (st_q := [.int (i32 (T0 25 (n).toNat)), .int (i32 (13)), .ref 66]) rfl (jl_iloadn gL857_3) ?_
      refine jx_ar (pc_q := 100) (st_q := [.int (i32 (2)), .int (i32 (T0 25 (n).toNat)), .int (i32 (13)), .ref 66]) rfl rfl rfl rfl ?_
      refine jx_add (pc_q := 101) rfl rfl ?_
      refine jx_vr (pc_q := 104) (as := [.int (i32 (13)), .int (i32 ((T0 25 (n).toNat + 2)))]) (st := []) rfl rfl rfl rfl ⟨rfl, rfl, Nat.le_of_ble_eq_true rfl⟩ rfl rfl (c_emit (dd := d) (hd := by omega) (hW := hW964) (fn := 13) (v := (T0 25 (n).toNat + 2)) (st := st2_962) (e_st := show G960 70 = st2_962 from (e967)) (lg := lg2_963) (e_lg := show G960 79 = lg2_963 from (e968))  (h_fn := ⟨(by decide), (by decide)⟩) (h_v := ⟨(by omega), (by omega)⟩)  (p_0 := by omega) (p_1 := by omega)) (fun o V_q hq => ?_)
      obtain ⟨G987, A988, st2_989, lg2_990, rfl, rfl, hW991, hF992, hQ993, e994, e995, p996, p997, p998, p999, p1000, p1001, -⟩ := hq
      have hF1003 := Fr_tr hF976 hF992 (Fr_sub (by decide)) (Fr_sub (by decide))
      have hC1004 := Fx_tr hC977 hQ993 (by omega)
      have hAl1005 := Fx_f hAl978 hF992 (by decide)
      have hBp1006 := Fx_f hBp979 hF992 (by decide)
      have sf1007 := FA_fr (hF992.2 51 rfl) sf980
      have sf1008 := SA_fr (hF992.2 13 rfl) sf981
      have bst2_989 : (-2147483648 : Int) ≤ st2_989 ∧ st2_989 ≤ 2147483647 := e994 ▸ hW991.1 70
      have blg2_990 : (0 : Int) ≤ lg2_990 ∧ lg2_990 ≤ 1 := e995 ▸ hW991.1 79
      refine .inl ⟨rfl, ?_⟩
      have sf1009 : Cd (lg2_990 = 0 ∧ lb2_862 < 19999) (PL A988 (st) (st2_860) (r838) (lb2_839) (lb2_862)) := Cd_mk (fun hC => PL_mv (Cg_fx (l0 := lb2_839) (l1 := lb2_862) hQ993 (Fx_f (w := lb2_862 + 1) Fx_rf hF992 (by decide)) (by omega)) (by omega) (Cd_ap sf982 (by omega)))
      have sf1010 : Cd (lg2_990 = 0 ∧ lb2_862 < 19999) (ST A988 (st2_860) (st2_887) (13) (T0 25 (n).toNat)) := Cd_mk (fun hC => ST_mv (Cg_fx (l0 := 0) (l1 := 0) hQ993 (Fx_f (w := 0 + 1) Fx_rf hF992 (by decide)) (by omega)) (by omega) (Cd_ap sf983 (by omega)))
      have sf1011 : Cd (lg2_990 = 0 ∧ lb2_862 < 19999) (ST A988 (st2_887) (st2_911) (4) (T0 18 (n).toNat)) := Cd_mk (fun hC => ST_mv (Cg_fx (l0 := 0) (l1 := 0) hQ993 (Fx_f (w := 0 + 1) Fx_rf hF992 (by decide)) (by omega)) (by omega) (Cd_ap sf984 (by omega)))
      have sf1012 : Cd (lg2_990 = 0 ∧ lb2_862 < 19999) (ST A988 (st2_911) (st2_936) (13) (T0 25 (n).toNat + 1)) := Cd_mk (fun hC => ST_mv (Cg_fx (l0 := 0) (l1 := 0) hQ993 (Fx_f (w := 0 + 1) Fx_rf hF992 (by decide)) (by omega)) (by omega) (Cd_ap sf985 (by omega)))
      have sf1013 : Cd (lg2_990 = 0 ∧ lb2_862 < 19999) (ST A988 (st2_936) (st2_962) (15) (30)) := Cd_mk (fun hC => ST_mv (Cg_fx (l0 := 0) (l1 := 0) hQ993 (Fx_f (w := 0 + 1) Fx_rf hF992 (by decide)) (by omega)) (by omega) (Cd_ap p974 (by omega)))
      have hBo1014 : Cd (lg2_990 = 0 ∧ lb2_862 < 19999) (Fx [50] (lb + 1) A A988) := Cd_mk (fun hC => Fx_f (Cd_ap hBo986 (by omega)) hF992 (by decide))
      have hmy : mny T0 n = T0 18 (n).toNat := if_neg (by omega); have hk0 : kid T0 n (0 : Int).toNat = T0 21 (n).toNat := kid_28 (by omega); have hd0 : dpt T0 n (0 : Int).toNat = 3 := rfl
      refine jx_ar (pc_q := 105) (st_q := [.int (i32 (3))]) rfl rfl rfl rfl ?_
      refine jx_ld (pc_q := 107) (l_q := jSto1 L857 7 (.int (i32 (3)))) (st_q := []) rfl rfl ?_
      obtain ⟨L1015, eL1015⟩ : ∃ q, q = jSto1 L857 7 (.int (i32 (3))) := ⟨_, rfl⟩
      rw [← eL1015]
      have gL1015_0 : jGet L1015 0 = some (.ref 66) := eL1015 ▸ jg_ne (by decide) gL857_0 rfl
      have gL1015_1 : jGet L1015 1 = some (.int (i32 (n))) := eL1015 ▸ jg_ne (by decide) gL857_1 rfl
      have gL1015_2 : jGet L1015 2 = some (.int (i32 (0))) := eL1015 ▸ jg_ne (by decide) gL857_2 rfl
      have gL1015_3 : jGet L1015 3 = some (.int (i32 (T0 25 (n).toNat))) := eL1015 ▸ jg_ne (by decide) gL857_3 rfl
      have gL1015_4 : jGet L1015 4 = some (.int (i32 (T0 18 (n).toNat))) := eL1015 ▸ jg_ne (by decide) gL857_4 rfl
      have gL1015_5 : jGet L1015 5 = some (.int (i32 (r838))) := eL1015 ▸ jg_ne (by decide) gL857_5 rfl
      have gL1015_6 : jGet L1015 6 = some (.int (i32 ((8 * nw)))) := eL1015 ▸ jg_ne (by decide) gL857_6 rfl
      have gL1015_7 : jGet L1015 7 = some (.int (i32 (3))) := eL1015 ▸ jg_eq
      refine jx_ld (pc_q := 108) (l_q := L1015) (st_q := [.ref 66]) rfl (jl_aloadn gL1015_0) ?_
      refine jr_get (pc_q := 111) (i := 38) (v := .ref 88) rfl rfl (by decide) rfl rfl ?_
      refine jx_ld (pc_q := 112) (l_q := L1015) (st_q := [.int (i32 (n)), .ref 88]) rfl (jl_iloadn gL1015_1) ?_
      have b1016 : (-2147483648 : Int) ≤ T0 21 (n).toNat ∧ T0 21 (n).toNat ≤ 2147483647 := hWT.2 21 _
      refine jr_ldv (pc_q := 113) (i := 21) (m := 7000) (z := n) (y := T0 21 (n).toNat) rfl (by decide) rfl (by decide) (by omega) (by omega) rfl (show A988 21 (n).toNat = T0 21 (n).toNat from (congrFun ((hF992.2 21 rfl).trans ((hF965.2 21 rfl).trans ((hF939.2 21 rfl).trans ((hF914.2 21 rfl).trans ((hF890.2 21 rfl).trans ((hF864.2 21 rfl).trans ((hF841.2 21 rfl).trans (p_0 21 rfl)))))))) _)) ?_
      refine jx_ld (pc_q := 115) (l_q := jSto1 L1015 8 (.int (i32 (T0 21 (n).toNat)))) (st_q := []) rfl rfl ?_
      obtain ⟨L1017, eL1017⟩ : ∃ q, q = jSto1 L1015 8 (.int (i32 (T0 21 (n).toNat))) := ⟨_, rfl⟩
      rw [← eL1017]
      have gL1017_0 : jGet L1017 0 = some (.ref 66) := eL1017 ▸ jg_ne (by decide) gL1015_0 rfl
      have gL1017_1 : jGet L1017 1 = some (.int (i32 (n))) := eL1017 ▸ jg_ne (by decide) gL1015_1 rfl
      have gL1017_2 : jGet L1017 2 = some (.int (i32 (0))) := eL1017 ▸ jg_ne (by decide) gL1015_2 rfl
      have gL1017_3 : jGet L1017 3 = some (.int (i32 (T0 25 (n).toNat))) := eL1017 ▸ jg_ne (by decide) gL1015_3 rfl
      have gL1017_4 : jGet L1017 4 = some (.int (i32 (T0 18 (n).toNat))) := eL1017 ▸ jg_ne (by decide) gL1015_4 rfl
      have gL1017_5 : jGet L1017 5 = some (.int (i32 (r838))) := eL1017 ▸ jg_ne (by decide) gL1015_5 rfl
      have gL1017_6 : jGet L1017 6 = some (.int (i32 ((8 * nw)))) := eL1017 ▸ jg_ne (by decide) gL1015_6 rfl
      have gL1017_7 : jGet L1017 7 = some (.int (i32 (3))) := eL1017 ▸ jg_ne (by decide) gL1015_7 rfl
      have gL1017_8 : jGet L1017 8 = some (.int (i32 (T0 21 (n).toNat))) := eL1017 ▸ jg_eq
      refine jx_ar (pc_q := 116) (st_q := [.int (i32 (0))]) rfl rfl rfl rfl ?_
      refine jx_ld (pc_q := 118) (l_q := jSto1 L1017 9 (.int (i32 (0)))) (st_q := []) rfl rfl ?_
      obtain ⟨L1018, eL1018⟩ : ∃ q, q = jSto1 L1017 9 (.int (i32 (0))) := ⟨_, rfl⟩
      rw [← eL1018]
      have gL1018_0 : jGet L1018 0 = some (.ref 66) := eL1018 ▸ jg_ne (by decide) gL1017_0 rfl
      have gL1018_1 : jGet L1018 1 = some (.int (i32 (n))) := eL1018 ▸ jg_ne (by decide) gL1017_1 rfl
      have gL1018_2 : jGet L1018 2 = some (.int (i32 (0))) := eL1018 ▸ jg_ne (by decide) gL1017_2 rfl
      have gL1018_3 : jGet L1018 3 = some (.int (i32 (T0 25 (n).toNat))) := eL1018 ▸ jg_ne (by decide) gL1017_3 rfl
      have gL1018_4 : jGet L1018 4 = some (.int (i32 (T0 18 (n).toNat))) := eL1018 ▸ jg_ne (by decide) gL1017_4 rfl
      have gL1018_5 : jGet L1018 5 = some (.int (i32 (r838))) := eL1018 ▸ jg_ne (by decide) gL1017_5 rfl
      have gL1018_6 : jGet L1018 6 = some (.int (i32 ((8 * nw)))) := eL1018 ▸ jg_ne (by decide) gL1017_6 rfl
      have gL1018_7 : jGet L1018 7 = some (.int (i32 (3))) := eL1018 ▸ jg_ne (by decide) gL1017_7 rfl
      have gL1018_8 : jGet L1018 8 = some (.int (i32 (T0 21 (n).toNat))) := eL1018 ▸ jg_ne (by decide) gL1017_8 rfl
      have gL1018_9 : jGet L1018 9 = some (.int (i32 (0))) := eL1018 ▸ jg_eq
      exact c_genPar_at_118_0 (X := X) (k := k) (hN := hN) (d := d) (T0 := T0) (Q := Q) (F := F) (Sn := Sn) (Vs := Vs) (sb := sb) (pb := pb) (c0 := c0) (c1 := c1) (G := G) (A := A) (T := T) (n := n) (hi := hi) (s0 := s0) (s1 := s1) (D := D) (bd := bd) (st := st) (lg := lg) (lb := lb) (nw := nw) (al := al) (fw := fw) (hd := hd) (hW := hW) (e_st := e_st) (e_lg := e_lg) (e_lb := e_lb) (e_nw := e_nw) (e_al := e_al) (e_fw := e_fw) (h_n := h_n) (p_0 := p_0) (p_1 := p_1) (p_2 := p_2) (p_3 := p_3) (p_4 := p_4) (p_5 := p_5) (p_6 := p_6) (p_7 := p_7) (p_8 := p_8) (p_9 := p_9) (p_10 := p_10) (p_11 := p_11) (p_12 := p_12) (p_13 := p_13) (p_14 := p_14) (p_15 := p_15) (p_16 := p_16) (p_17 := p_17) (p_18 := p_18) (p_19 := p_19) (p_20 := p_20) (p_21 := p_21) (p_22 := p_22) (p_23 := p_23) (p_24 := p_24) (p_25 := p_25) (p_26 := p_26) (p_27 := p_27) (p_28 := p_28) (p_29 := p_29) (p_30 := p_30) _ L1018 G987 A988 (T0 25 (n).toNat) (T0 18 (n).toNat) (r838) ((8 * nw)) (3) (T0 21 (n).toNat) (0) (st2_989) (lg2_990) (lb2_862) (fw) ((fun _ => 0)) rfl gL1018_0 gL1018_1 gL1018_2 gL1018_3 gL1018_4 gL1018_5 gL1018_6 gL1018_7 gL1018_8 gL1018_9 hW991 hF1003 hC1004 hAl1005 hBp1006 (Cd_mk (fun hC => Cd_ap hBo1014 (by omega))) ((e994)) ((e995)) (((hF992.1 77 rfl).trans ((hF965.1 77 rfl).trans ((hF939.1 77 rfl).trans ((hF914.1 77 rfl).trans ((hF890.1 77 rfl).trans (e868))))))) ((congrFun ((hF992.2 51 rfl).trans ((hF965.2 51 rfl).trans ((hF939.2 51 rfl).trans ((hF914.2 51 rfl).trans ((hF890.2 51 rfl).trans ((hF864.2 51 rfl).trans (hF841.2 51 rfl))))))) _).trans (e_fw)) (((hF992.1 81 rfl).trans ((hF965.1 81 rfl).trans ((hF939.1 81 rfl).trans ((hF914.1 81 rfl).trans ((hF890.1 81 rfl).trans ((hF864.1 81 rfl).trans ((hF841.1 81 rfl).trans (e_nw))))))))) (((hF992.1 89 rfl).trans ((hF965.1 89 rfl).trans ((hF939.1 89 rfl).trans ((hF914.1 89 rfl).trans ((hF890.1 89 rfl).trans ((hF864.1 89 rfl).trans ((hF841.1 89 rfl).trans (e_al))))))))) (by omega) (by omega) (by omega) (by omega) (by omega) (by omega) (by omega) (by omega) (by omega) (by omega) (by omega) (by omega) ((Cd_mk (fun hC => by omega))) (by omega) (by omega) (by omega) (by omega) (by omega) (by omega) (by omega) (by omega) (by omega) (by omega) (by omega) ((Cd_mk (fun hC => (by have hr := Cd_ap p847 (by omega); omega)))) (by omega) (sf1007) (sf1008) ((PE_0 (by omega))) ((PE_0 (by omega))) ((LBd_0 (by omega))) ((Cd_mk (fun hC => (gP1_0 rfl (PL_su (Cd_ap sf1009 (by omega)) (by omega) (by omega)) (by omega) (Cd_ap sf1010 (by omega)) (Cd_ap sf1011 (by omega)) (Cd_ap sf1012 (by omega)) (Cd_ap sf1013 (by omega)) (Cd_ap p1001 (by omega)) rfl (by omega)))))
    · have _q := h833
      exact absurd h833 (by omega)
  · have _q := h829
    refine jx_ar (pc_q := 12) (st_q := [.int (i32 (1))]) rfl rfl rfl rfl ?_
    refine jx_go (tg := 16) rfl rfl ?_
    refine jx_ld (pc_q := 17) (l_q := jSto1 [(0, .ref 66), (1, .int (i32 (n)))] 2 (.int (i32 (1)))) (st_q := []) rfl rfl ?_
    obtain ⟨L1019, eL1019⟩ : ∃ q, q = jSto1 [(0, .ref 66), (1, .int (i32 (n)))] 2 (.int (i32 (1))) := ⟨_, rfl⟩
    rw [← eL1019]
    have gL1019_0 : jGet L1019 0 = some (.ref 66) := eL1019 ▸ jg_ne (by decide) (rfl : jGet [(0, .ref 66), (1, .int (i32 (n)))] 0 = some (.ref 66)) rfl
    have gL1019_1 : jGet L1019 1 = some (.int (i32 (n))) := eL1019 ▸ jg_ne (by decide) (rfl : jGet [(0, .ref 66), (1, .int (i32 (n)))] 1 = some (.int (i32 (n)))) rfl
    have gL1019_2 : jGet L1019 2 = some (.int (i32 (1))) := eL1019 ▸ jg_eq
    refine jx_ld (pc_q := 18) (l_q := L1019) (st_q := [.ref 66]) rfl (jl_aloadn gL1019_0) ?_
    refine jr_get (pc_q := 21) (i := 42) (v := .ref 92) rfl rfl (by decide) rfl rfl ?_
    refine jx_ld (pc_q := 22) (l_q := L1019) (st_q := [.int (i32 (n)), .ref 92]) rfl (jl_iloadn gL1019_1) ?_
    have b1020 : (-2147483648 : Int) ≤ T0 25 (n).toNat ∧ T0 25 (n).toNat ≤ 2147483647 := hWT.2 25 _
    refine jr_ldv (pc_q := 23) (i := 25) (m := 7000) (z := n) (y := T0 25 (n).toNat) rfl (by decide) rfl (by decide) (by omega) (by omega) rfl (show A 25 (n).toNat = T0 25 (n).toNat from (congrFun (p_0 25 rfl) _)) ?_
    refine jx_ld (pc_q := 24) (l_q := jSto1 L1019 3 (.int (i32 (T0 25 (n).toNat)))) (st_q := []) rfl rfl ?_
    obtain ⟨L1021, eL1021⟩ : ∃ q, q = jSto1 L1019 3 (.int (i32 (T0 25 (n).toNat))) := ⟨_, rfl⟩
    rw [← eL1021]
    have gL1021_0 : jGet L1021 0 = some (.ref 66) := eL1021 ▸ jg_ne (by decide) gL1019_0 rfl
    have gL1021_1 : jGet L1021 1 = some (.int (i32 (n))) := eL1021 ▸ jg_ne (by decide) gL1019_1 rfl
    have gL1021_2 : jGet L1021 2 = some (.int (i32 (1))) := eL1021 ▸ jg_ne (by decide) gL1019_2 rfl
    have gL1021_3 : jGet L1021 3 = some (.int (i32 (T0 25 (n).toNat))) := eL1021 ▸ jg_eq
    refine jx_ld (pc_q := 25) (l_q := L1021) (st_q := [.int (i32 (1))]) rfl (jl_iloadn gL1021_2) ?_
    refine jx_if_eq (pc_q := 28) (tg := 37) rfl rfl rfl (by decide) (by decide) (fun h1022 => ?_) (fun h1022 => ?_)
    · have _q := h1022
      exact absurd h1022 (by omega)
    · have _q := h1022
      refine jx_ld (pc_q := 29) (l_q := L1021) (st_q := [.ref 66]) rfl (jl_aloadn gL1021_0) ?_
      refine jr_get (pc_q := 32) (i := 37) (v := .ref 87) rfl rfl (by decide) rfl rfl ?_
      refine jx_ld (pc_q := 33) (l_q := L1021) (st_q := [.int (i32 (n)), .ref 87]) rfl (jl_iloadn gL1021_1) ?_
      have b1023 : (-2147483648 : Int) ≤ T0 20 (n).toNat ∧ T0 20 (n).toNat ≤ 2147483647 := hWT.2 20 _
      refine jr_ldv (pc_q := 34) (i := 20) (m := 7000) (z := n) (y := T0 20 (n).toNat) rfl (by decide) rfl (by decide) (by omega) (by omega) rfl (show A 20 (n).toNat = T0 20 (n).toNat from (congrFun (p_0 20 rfl) _)) ?_
      refine jx_go (tg := 43) rfl rfl ?_
      refine jx_ld (pc_q := 45) (l_q := jSto1 L1021 4 (.int (i32 (T0 20 (n).toNat)))) (st_q := []) rfl rfl ?_
      obtain ⟨L1024, eL1024⟩ : ∃ q, q = jSto1 L1021 4 (.int (i32 (T0 20 (n).toNat))) := ⟨_, rfl⟩
      rw [← eL1024]
      have gL1024_0 : jGet L1024 0 = some (.ref 66) := eL1024 ▸ jg_ne (by decide) gL1021_0 rfl
      have gL1024_1 : jGet L1024 1 = some (.int (i32 (n))) := eL1024 ▸ jg_ne (by decide) gL1021_1 rfl
      have gL1024_2 : jGet L1024 2 = some (.int (i32 (1))) := eL1024 ▸ jg_ne (by decide) gL1021_2 rfl
      have gL1024_3 : jGet L1024 3 = some (.int (i32 (T0 25 (n).toNat))) := eL1024 ▸ jg_ne (by decide) gL1021_3 rfl
      have gL1024_4 : jGet L1024 4 = some (.int (i32 (T0 20 (n).toNat))) := eL1024 ▸ jg_eq
      refine jx_ld (pc_q := 46) (l_q := L1024) (st_q := [.ref 66]) rfl (jl_aloadn gL1024_0) ?_
      refine jx_vr (pc_q := 49) (as := []) (st := []) rfl rfl rfl rfl ⟨rfl, rfl, Nat.le_of_ble_eq_true rfl⟩ rfl rfl (c_label (dd := d) (hd := by omega) (hW := hW)  (lb := lb) (e_lb := show G 77 = lb from (e_lb))    (p_0 := by omega) (p_1 := by omega)) (fun o V_q hq => ?_)
      obtain ⟨G1025, A1026, r1027, lb2_1028, rfl, rfl, hW1029, hF1030, b1031, e1032, p1033, p1034, p1035, p1036, -⟩ := hq
      have hF1038 := Fr_tr hF0 hF1030 (Fr_sub (by decide)) (Fr_sub (by decide))
      have hC1039 := Fx_f hC0 hF1030 (by decide)
      have hAl1040 := Fx_f hAl0 hF1030 (by decide)
      have hBp1041 := Fx_f hBp0 hF1030 (by decide)
      have sf1042 := FA_fr (hF1030.2 51 rfl) p_1
      have sf1043 := SA_fr (hF1030.2 13 rfl) p_2
      have blb2_1028 : (-2147483648 : Int) ≤ lb2_1028 ∧ lb2_1028 ≤ 2147483647 := e1032 ▸ hW1029.1 77
      refine .inr ⟨_, rfl, ?_⟩
      have hBo1044 : Cd (lg = 0 ∧ lb2_1028 < 19999) (Fx [50] (lb + 1) A A1026) := Cd_mk (fun hC => Fx_f (Cd_ap hBo0 (by omega)) hF1030 (by decide))
      refine jx_ld (pc_q := 51) (l_q := jSto1 L1024 5 (.int (i32 (r1027)))) (st_q := []) rfl rfl ?_
      obtain ⟨L1045, eL1045⟩ : ∃ q, q = jSto1 L1024 5 (.int (i32 (r1027))) := ⟨_, rfl⟩
      rw [← eL1045]
      have gL1045_0 : jGet L1045 0 = some (.ref 66) := eL1045 ▸ jg_ne (by decide) gL1024_0 rfl
      have gL1045_1 : jGet L1045 1 = some (.int (i32 (n))) := eL1045 ▸ jg_ne (by decide) gL1024_1 rfl
      have gL1045_2 : jGet L1045 2 = some (.int (i32 (1))) := eL1045 ▸ jg_ne (by decide) gL1024_2 rfl
      have gL1045_3 : jGet L1045 3 = some (.int (i32 (T0 25 (n).toNat))) := eL1045 ▸ jg_ne (by decide) gL1024_3 rfl
      have gL1045_4 : jGet L1045 4 = some (.int (i32 (T0 20 (n).toNat))) := eL1045 ▸ jg_ne (by decide) gL1024_4 rfl
      have gL1045_5 : jGet L1045 5 = some (.int (i32 (r1027))) := eL1045 ▸ jg_eq
      refine jx_ar (pc_q := 53) (st_q := [.int (i32 (8))]) rfl rfl rfl rfl ?_
      refine jx_ld (pc_q := 54) (l_q := L1045) (st_q := [.ref 66, .int (i32 (8))]) rfl (jl_aloadn gL1045_0) ?_
      refine jr_get (pc_q := 57) (i := 81) (v := .int (i32 (nw))) rfl rfl (by decide) (rFv_eq (by decide) (show G1025 81 = nw from ((hF1030.1 81 rfl).trans (e_nw)))) rfl ?_
      refine jx_mul (pc_q := 58) rfl rfl ?_
      refine jx_ld (pc_q := 60) (l_q := jSto1 L1045 6 (.int (i32 ((8 * nw))))) (st_q := []) rfl rfl ?_
      obtain ⟨L1046, eL1046⟩ : ∃ q, q = jSto1 L1045 6 (.int (i32 ((8 * nw)))) := ⟨_, rfl⟩
      rw [← eL1046]
      have gL1046_0 : jGet L1046 0 = some (.ref 66) := eL1046 ▸ jg_ne (by decide) gL1045_0 rfl
      have gL1046_1 : jGet L1046 1 = some (.int (i32 (n))) := eL1046 ▸ jg_ne (by decide) gL1045_1 rfl
      have gL1046_2 : jGet L1046 2 = some (.int (i32 (1))) := eL1046 ▸ jg_ne (by decide) gL1045_2 rfl
      have gL1046_3 : jGet L1046 3 = some (.int (i32 (T0 25 (n).toNat))) := eL1046 ▸ jg_ne (by decide) gL1045_3 rfl
      have gL1046_4 : jGet L1046 4 = some (.int (i32 (T0 20 (n).toNat))) := eL1046 ▸ jg_ne (by decide) gL1045_4 rfl
      have gL1046_5 : jGet L1046 5 = some (.int (i32 (r1027))) := eL1046 ▸ jg_ne (by decide) gL1045_5 rfl
      have gL1046_6 : jGet L1046 6 = some (.int (i32 ((8 * nw)))) := eL1046 ▸ jg_eq
      refine jx_ld (pc_q := 61) (l_q := L1046) (st_q := [.ref 66]) rfl (jl_aloadn gL1046_0) ?_
      refine jx_ld (pc_q := 63) (l_q := L1046) (st_q := [.int (i32 (r1027)), .ref 66]) rfl (jl_iload gL1046_5) ?_
      refine jx_vr (pc_q := 66) (as := [.int (i32 (r1027))]) (st := []) rfl rfl rfl rfl ⟨rfl, rfl, Nat.le_of_ble_eq_true rfl⟩ rfl rfl (c_place (dd := d) (hd := by omega) (hW := hW1029) (to := r1027) (st := st) (e_st := show G1025 70 = st from ((hF1030.1 70 rfl).trans (e_st))) (lg := lg) (e_lg := show G1025 79 = lg from ((hF1030.1 79 rfl).trans (e_lg))) (lb := lb2_1028) (e_lb := show G1025 77 = lb2_1028 from (e1032))  (h_to := ⟨(Int.le_trans (by decide : (-2147483648 : Int) ≤ -2147483648) b1031.1), (Int.le_trans b1031.2 (by decide : (2147483647 : Int) ≤ 2147483647))⟩)  (p_0 := by omega) (p_1 := by omega) (p_2 := by omega) (p_3 := by omega)) (fun o V_q hq => ?_)
      obtain ⟨G1047, A1048, st2_1049, lg2_1050, lb2_1051, rfl, rfl, hW1052, hF1053, hQ1054, e1055, e1056, e1057, p1058, p1059, p1060, p1061, p1062, p1063, p1064, p1065, -⟩ := hq
      have hF1067 := Fr_tr hF1038 hF1053 (Fr_sub (by decide)) (Fr_sub (by decide))
      have hC1068 := Fx_tr hC1039 hQ1054 (by omega)
      have hAl1069 := Fx_f hAl1040 hF1053 (by decide)
      have hBp1070 := Fx_f hBp1041 hF1053 (by decide)
      have sf1071 := FA_fr (hF1053.2 51 rfl) sf1042
      have sf1072 := SA_fr (hF1053.2 13 rfl) sf1043
      have bst2_1049 : (-2147483648 : Int) ≤ st2_1049 ∧ st2_1049 ≤ 2147483647 := e1055 ▸ hW1052.1 70
      have blg2_1050 : (0 : Int) ≤ lg2_1050 ∧ lg2_1050 ≤ 1 := e1056 ▸ hW1052.1 79
      have blb2_1051 : (-2147483648 : Int) ≤ lb2_1051 ∧ lb2_1051 ≤ 2147483647 := e1057 ▸ hW1052.1 77
      refine .inl ⟨rfl, ?_⟩
      have hBo1073 : Cd (lg2_1050 = 0 ∧ lb2_1051 < 19999) (Fx [50] (lb + 1) A A1048) := Cd_mk (fun hC => Fx_tr (Cd_ap hBo1044 (by omega)) (Cd_ap p1064 (by omega)) (by omega))
      refine jx_ld (pc_q := 67) (l_q := L1046) (st_q := [.ref 66]) rfl (jl_aloadn gL1046_0) ?_
      refine jx_ar (pc_q := 69) (st_q := [.int (i32 (13)), .ref 66]) rfl rfl rfl rfl ?_
      refine jx_ld (pc_q := 70) (l_q := L1046) (st_q := [.int (i32 (T0 25 (n).toNat)), .int (i32 (13)), .ref 66]) rfl (jl_iloadn gL1046_3) ?_
      refine jx_vr (pc_q := 73) (as := [.int (i32 (13)), .int (i32 (T0 25 (n).toNat))]) (st := []) rfl rfl rfl rfl ⟨rfl, rfl, Nat.le_of_ble_eq_true rfl⟩ rfl rfl (c_emit (dd := d) (hd := by omega) (hW := hW1052) (fn := 13) (v := T0 25 (n).toNat) (st := st2_1049) (e_st := show G1047 70 = st2_1049 from (e1055)) (lg := lg2_1050) (e_lg := show G1047 79 = lg2_1050 from (e1056))  (h_fn := ⟨(by decide), (by decide)⟩) (h_v := ⟨(Int.le_trans (by decide : (-2147483648 : Int) ≤ -2147483648) b1020.1), (Int.le_trans b1020.2 (by decide : (2147483647 : Int) ≤ 2147483647))⟩)  (p_0 := by omega) (p_1 := by omega)) (fun o V_q hq => ?_)
      obtain ⟨G1074, A1075, st2_1076, lg2_1077, rfl, rfl, hW1078, hF1079, hQ1080, e1081, e1082, p1083, p1084, p1085, p1086, p1087, p1088, -⟩ := hq
      have hF1090 := Fr_tr hF1067 hF1079 (Fr_sub (by decide)) (Fr_sub (by decide))
      have hC1091 := Fx_tr hC1068 hQ1080 (by omega)
      have hAl1092 := Fx_f hAl1069 hF1079 (by decide)
      have hBp1093 := Fx_f hBp1070 hF1079 (by decide)
      have sf1094 := FA_fr (hF1079.2 51 rfl) sf1071
      have sf1095 := SA_fr (hF1079.2 13 rfl) sf1072
      have bst2_1076 : (-2147483648 : Int) ≤ st2_1076 ∧ st2_1076 ≤ 2147483647 := e1081 ▸ hW1078.1 70
      have blg2_1077 : (0 : Int) ≤ lg2_1077 ∧ lg2_1077 ≤ 1 := e1082 ▸ hW1078.1 79
      refine .inl ⟨rfl, ?_⟩
      have sf1096 : Cd (lg2_1077 = 0 ∧ lb2_1051 < 19999) (PL A1075 (st) (st2_1049) (r1027) (lb2_1028) (lb2_1051)) := Cd_mk (fun hC => PL_mv (Cg_fx (l0 := lb2_1028) (l1 := lb2_1051) hQ1080 (Fx_f (w := lb2_1051 + 1) Fx_rf hF1079 (by decide)) (by omega)) (by omega) (Cd_ap p1065 (by omega)))
      have hBo1097 : Cd (lg2_1077 = 0 ∧ lb2_1051 < 19999) (Fx [50] (lb + 1) A A1075) := Cd_mk (fun hC => Fx_f (Cd_ap hBo1073 (by omega)) hF1079 (by decide))
      refine jx_ld (pc_q := 74) (l_q := L1046) (st_q := [.ref 66]) rfl (jl_aloadn gL1046_0) ?_
      refine jx_ar (pc_q := 75) (st_q := [.int (i32 (4)), .ref 66]) rfl rfl rfl rfl ?_
      refine jx_ld (pc_q := 77) (l_q := L1046) (st_q := [.int (i32 (T0 20 (n).toNat)), .int (i32 (4)), .ref 66]) rfl (jl_iload gL1046_4) ?_
      refine jx_vr (pc_q := 80) (as := [.int (i32 (4)), .int (i32 (T0 20 (n).toNat))]) (st := []) rfl rfl rfl rfl ⟨rfl, rfl, Nat.le_of_ble_eq_true rfl⟩ rfl rfl (c_emit (dd := d) (hd := by omega) (hW := hW1078) (fn := 4) (v := T0 20 (n).toNat) (st := st2_1076) (e_st := show G1074 70 = st2_1076 from (e1081)) (lg := lg2_1077) (e_lg := show G1074 79 = lg2_1077 from (e1082))  (h_fn := ⟨(by decide), (by decide)⟩) (h_v := ⟨(Int.le_trans (by decide : (-2147483648 : Int) ≤ -2147483648) b1023.1), (Int.le_trans b1023.2 (by decide : (2147483647 : Int) ≤ 2147483647))⟩)  (p_0 := by omega) (p_1 := by omega)) (fun o V_q hq => ?_)
      obtain ⟨G1098, A1099, st2_1100, lg2_1101, rfl, rfl, hW1102, hF1103, hQ1104, e1105, e1106, p1107, p1108, p1109, p1110, p1111, p1112, -⟩ := hq
      have hF1114 := Fr_tr hF1090 hF1103 (Fr_sub (by decide)) (Fr_sub (by decide))
      have hC1115 := Fx_tr hC1091 hQ1104 (by omega)
      have hAl1116 := Fx_f hAl1092 hF1103 (by decide)
      have hBp1117 := Fx_f hBp1093 hF1103 (by decide)
      have sf1118 := FA_fr (hF1103.2 51 rfl) sf1094
      have sf1119 := SA_fr (hF1103.2 13 rfl) sf1095
      have bst2_1100 : (-2147483648 : Int) ≤ st2_1100 ∧ st2_1100 ≤ 2147483647 := e1105 ▸ hW1102.1 70
      have blg2_1101 : (0 : Int) ≤ lg2_1101 ∧ lg2_1101 ≤ 1 := e1106 ▸ hW1102.1 79
      refine .inl ⟨rfl, ?_⟩
      have sf1120 : Cd (lg2_1101 = 0 ∧ lb2_1051 < 19999) (PL A1099 (st) (st2_1049) (r1027) (lb2_1028) (lb2_1051)) := Cd_mk (fun hC => PL_mv (Cg_fx (l0 := lb2_1028) (l1 := lb2_1051) hQ1104 (Fx_f (w := lb2_1051 + 1) Fx_rf hF1103 (by decide)) (by omega)) (by omega) (Cd_ap sf1096 (by omega)))
      have sf1121 : Cd (lg2_1101 = 0 ∧ lb2_1051 < 19999) (ST A1099 (st2_1049) (st2_1076) (13) (T0 25 (n).toNat)) := Cd_mk (fun hC => ST_mv (Cg_fx (l0 := 0) (l1 := 0) hQ1104 (Fx_f (w := 0 + 1) Fx_rf hF1103 (by decide)) (by omega)) (by omega) (Cd_ap p1088 (by omega)))
      have hBo1122 : Cd (lg2_1101 = 0 ∧ lb2_1051 < 19999) (Fx [50] (lb + 1) A A1099) := Cd_mk (fun hC => Fx_f (Cd_ap hBo1097 (by omega)) hF1103 (by decide))
      refine jx_ld (pc_q := 81) (l_q := L1046) (st_q := [.ref 66]) rfl (jl_aloadn gL1046_0) ?_
      refine jx_ar (pc_q := 83) (st_q := [.int (i32 (13)), .ref 66]) rfl rfl rfl rfl ?_
      refine jx_ld (pc_q := 84) (l_q := L1046) (st_q := [.int (i32 (T0 25 (n).toNat)), .int (i32 (13)), .ref 66]) rfl (jl_iloadn gL1046_3) ?_
      refine jx_ar (pc_q := 85) (st_q := [.int (i32 (1)), .int (i32 (T0 25 (n).toNat)), .int (i32 (13)), .ref 66]) rfl rfl rfl rfl ?_
      refine jx_add (pc_q := 86) rfl rfl ?_
      refine jx_vr (pc_q := 89) (as := [.int (i32 (13)), .int (i32 ((T0 25 (n).toNat + 1)))]) (st := []) rfl rfl rfl rfl ⟨rfl, rfl, Nat.le_of_ble_eq_true rfl⟩ rfl rfl (c_emit (dd := d) (hd := by omega) (hW := hW1102) (fn := 13) (v := (T0 25 (n).toNat + 1)) (st := st2_1100) (e_st := show G1098 70 = st2_1100 from (e1105)) (lg := lg2_1101) (e_lg := show G1098 79 = lg2_1101 from (e1106))  (h_fn := ⟨(by decide), (by decide)⟩) (h_v := ⟨(by omega), (by omega)⟩)  (p_0 := by omega) (p_1 := by omega)) (fun o V_q hq => ?_)
      obtain ⟨G1123, A1124, st2_1125, lg2_1126, rfl, rfl, hW1127, hF1128, hQ1129, e1130, e1131, p1132, p1133, p1134, p1135, p1136, p1137, -⟩ := hq
      have hF1139 := Fr_tr hF1114 hF1128 (Fr_sub (by decide)) (Fr_sub (by decide))
      have hC1140 := Fx_tr hC1115 hQ1129 (by omega)
      have hAl1141 := Fx_f hAl1116 hF1128 (by decide)
      have hBp1142 := Fx_f hBp1117 hF1128 (by decide)
      have sf1143 := FA_fr (hF1128.2 51 rfl) sf1118
      have sf1144 := SA_fr (hF1128.2 13 rfl) sf1119
      have bst2_1125 : (-2147483648 : Int) ≤ st2_1125 ∧ st2_1125 ≤ 2147483647 := e1130 ▸ hW1127.1 70
      have blg2_1126 : (0 : Int) ≤ lg2_1126 ∧ lg2_1126 ≤ 1 := e1131 ▸ hW1127.1 79
      refine .inl ⟨rfl, ?_⟩
      have sf1145 : Cd (lg2_1126 = 0 ∧ lb2_1051 < 19999) (PL A1124 (st) (st2_1049) (r1027) (lb2_1028) (lb2_1051)) := Cd_mk (fun hC => PL_mv (Cg_fx (l0 := lb2_1028) (l1 := lb2_1051) hQ1129 (Fx_f (w := lb2_1051 + 1) Fx_rf hF1128 (by decide)) (by omega)) (by omega) (Cd_ap sf1120 (by omega)))
      have sf1146 : Cd (lg2_1126 = 0 ∧ lb2_1051 < 19999) (ST A1124 (st2_1049) (st2_1076) (13) (T0 25 (n).toNat)) := Cd_mk (fun hC => ST_mv (Cg_fx (l0 := 0) (l1 := 0) hQ1129 (Fx_f (w := 0 + 1) Fx_rf hF1128 (by decide)) (by omega)) (by omega) (Cd_ap sf1121 (by omega)))
      have sf1147 : Cd (lg2_1126 = 0 ∧ lb2_1051 < 19999) (ST A1124 (st2_1076) (st2_1100) (4) (T0 20 (n).toNat)) := Cd_mk (fun hC => ST_mv (Cg_fx (l0 := 0) (l1 := 0) hQ1129 (Fx_f (w := 0 + 1) Fx_rf hF1128 (by decide)) (by omega)) (by omega) (Cd_ap p1112 (by omega)))
      have hBo1148 : Cd (lg2_1126 = 0 ∧ lb2_1051 < 19999) (Fx [50] (lb + 1) A A1124) := Cd_mk (fun hC => Fx_f (Cd_ap hBo1122 (by omega)) hF1128 (by decide))
      refine jx_ld (pc_q := 90) (l_q := L1046) (st_q := [.ref 66]) rfl (jl_aloadn gL1046_0) ?_
      refine jx_ar (pc_q := 92) (st_q := [.int (i32 (30)), .ref 66]) rfl rfl rfl rfl ?_
      refine jx_vr (pc_q := 95) (as := [.int (i32 (30))]) (st := []) rfl rfl rfl rfl ⟨rfl, rfl, Nat.le_of_ble_eq_true rfl⟩ rfl rfl (c_op (dd := d) (hd := by omega) (hW := hW1127) (oo := 30) (st := st2_1125) (e_st := show G1123 70 = st2_1125 from (e1130)) (lg := lg2_1126) (e_lg := show G1123 79 = lg2_1126 from (e1131))  (h_oo := ⟨(by decide), (by decide)⟩)  (p_0 := by omega) (p_1 := by omega)) (fun o V_q hq => ?_)
      obtain ⟨G1149, A1150, st2_1151, lg2_1152, rfl, rfl, hW1153, hF1154, hQ1155, e1156, e1157, p1158, p1159, p1160, p1161, p1162, p1163, -⟩ := hq
      have hF1165 := Fr_tr hF1139 hF1154 (Fr_sub (by decide)) (Fr_sub (by decide))
      have hC1166 := Fx_tr hC1140 hQ1155 (by omega)
      have hAl1167 := Fx_f hAl1141 hF1154 (by decide)
      have hBp1168 := Fx_f hBp1142 hF1154 (by decide)
      have sf1169 := FA_fr (hF1154.2 51 rfl) sf1143
      have sf1170 := SA_fr (hF1154.2 13 rfl) sf1144
      have bst2_1151 : (-2147483648 : Int) ≤ st2_1151 ∧ st2_1151 ≤ 2147483647 := e1156 ▸ hW1153.1 70
      have blg2_1152 : (0 : Int) ≤ lg2_1152 ∧ lg2_1152 ≤ 1 := e1157 ▸ hW1153.1 79
      refine .inl ⟨rfl, ?_⟩
      have sf1171 : Cd (lg2_1152 = 0 ∧ lb2_1051 < 19999) (PL A1150 (st) (st2_1049) (r1027) (lb2_1028) (lb2_1051)) := Cd_mk (fun hC => PL_mv (Cg_fx (l0 := lb2_1028) (l1 := lb2_1051) hQ1155 (Fx_f (w := lb2_1051 + 1) Fx_rf hF1154 (by decide)) (by omega)) (by omega) (Cd_ap sf1145 (by omega)))
      have sf1172 : Cd (lg2_1152 = 0 ∧ lb2_1051 < 19999) (ST A1150 (st2_1049) (st2_1076) (13) (T0 25 (n).toNat)) := Cd_mk (fun hC => ST_mv (Cg_fx (l0 := 0) (l1 := 0) hQ1155 (Fx_f (w := 0 + 1) Fx_rf hF1154 (by decide)) (by omega)) (by omega) (Cd_ap sf1146 (by omega)))
      have sf1173 : Cd (lg2_1152 = 0 ∧ lb2_1051 < 19999) (ST A1150 (st2_1076) (st2_1100) (4) (T0 20 (n).toNat)) := Cd_mk (fun hC => ST_mv (Cg_fx (l0 := 0) (l1 := 0) hQ1155 (Fx_f (w := 0 + 1) Fx_rf hF1154 (by decide)) (by omega)) (by omega) (Cd_ap sf1147 (by omega)))
      have sf1174 : Cd (lg2_1152 = 0 ∧ lb2_1051 < 19999) (ST A1150 (st2_1100) (st2_1125) (13) (T0 25 (n).toNat + 1)) := Cd_mk (fun hC => ST_mv (Cg_fx (l0 := 0) (l1 := 0) hQ1155 (Fx_f (w := 0 + 1) Fx_rf hF1154 (by decide)) (by omega)) (by omega) (Cd_ap p1137 (by omega)))
      have hBo1175 : Cd (lg2_1152 = 0 ∧ lb2_1051 < 19999) (Fx [50] (lb + 1) A A1150) := Cd_mk (fun hC => Fx_f (Cd_ap hBo1148 (by omega)) hF1154 (by decide))
      refine jx_ld (pc_q := 96) (l_q := L1046) (st_q := [.ref 66]) rfl (jl_aloadn gL1046_0) ?_
      refine jx_ar (pc_q := 98) (st_q := [.int (i32 (13)), .ref 66]) rfl rfl rfl rfl ?_
      refine jx_ld (pc_q := 99) (l_q := L1046) (st_q := [.int (i32 (T0 25 (n).toNat)), .int (i32 (13)), .ref 66]) rfl (jl_iloadn gL1046_3) ?_
      refine jx_ar (pc_q := 100) (st_q := [.int (i32 (2)), .int (i32 (T0 25 (n).toNat)), .int (i32 (13)), .ref 66]) rfl rfl rfl rfl ?_
      refine jx_add (pc_q := 101) rfl rfl ?_
      refine jx_vr (pc_q := 104) (as := [.int (i32 (13)), .int (i32 ((T0 25 (n).toNat + 2)))]) (st := []) rfl rfl rfl rfl ⟨rfl, rfl, Nat.le_of_ble_eq_true rfl⟩ rfl rfl (c_emit (dd := d) (hd := by omega) (hW := hW1153) (fn := 13) (v := (T0 25 (n).toNat + 2)) (st := st2_1151) (e_st := show G1149 70 = st2_1151 from (e1156)) (lg := lg2_1152) (e_lg := show G1149 79 = lg2_1152 from (e1157))  (h_fn := ⟨(by decide), (by decide)⟩) (h_v := ⟨(by omega), (by omega)⟩)  (p_0 := by omega) (p_1 := by omega)) (fun o V_q hq => ?_)
      obtain ⟨G1176, A1177, st2_1178, lg2_1179, rfl, rfl, hW1180, hF1181, hQ1182, e1183, e1184, p1185, p1186, p1187, p1188, p1189, p1190, -⟩ := hq
      have hF1192 := Fr_tr hF1165 hF1181 (Fr_sub (by decide)) (Fr_sub (by decide))
      have hC1193 := Fx_tr hC1166 hQ1182 (by omega)
      have hAl1194 := Fx_f hAl1167 hF1181 (by decide)
      have hBp1195 := Fx_f hBp1168 hF1181 (by decide)
      have sf1196 := FA_fr (hF1181.2 51 rfl) sf1169
      have sf1197 := SA_fr (hF1181.2 13 rfl) sf1170
      have bst2_1178 : (-2147483648 : Int) ≤ st2_1178 ∧ st2_1178 ≤ 2147483647 := e1183 ▸ hW1180.1 70
      have blg2_1179 : (0 : Int) ≤ lg2_1179 ∧ lg2_1179 ≤ 1 := e1184 ▸ hW1180.1 79
      refine .inl ⟨rfl, ?_⟩
      have sf1198 : Cd (lg2_1179 = 0 ∧ lb2_1051 < 19999) (PL A1177 (st) (st2_1049) (r1027) (lb2_1028) (lb2_1051)) := Cd_mk (fun hC => PL_mv (Cg_fx (l0 := lb2_1028) (l1 := lb2_1051) hQ1182 (Fx_f (w := lb2_1051 + 1) Fx_rf hF1181 (by decide)) (by omega)) (by omega) (Cd_ap sf1171 (by omega)))
      have sf1199 : Cd (lg2_1179 = 0 ∧ lb2_1051 < 19999) (ST A1177 (st2_1049) (st2_1076) (13) (T0 25 (n).toNat)) := Cd_mk (fun hC => ST_mv (Cg_fx (l0 := 0) (l1 := 0) hQ1182 (Fx_f (w := 0 + 1) Fx_rf hF1181 (by decide)) (by omega)) (by omega) (Cd_ap sf1172 (by omega)))
      have sf1200 : Cd (lg2_1179 = 0 ∧ lb2_1051 < 19999) (ST A1177 (st2_1076) (st2_1100) (4) (T0 20 (n).toNat)) := Cd_mk (fun hC => ST_mv (Cg_fx (l0 := 0) (l1 := 0) hQ1182 (Fx_f (w := 0 + 1) Fx_rf hF1181 (by decide)) (by omega)) (by omega) (Cd_ap sf1173 (by omega)))
      have sf1201 : Cd (lg2_1179 = 0 ∧ lb2_1051 < 19999) (ST A1177 (st2_1100) (st2_1125) (13) (T0 25 (n).toNat + 1)) := Cd_mk (fun hC => ST_mv (Cg_fx (l0 := 0) (l1 := 0) hQ1182 (Fx_f (w := 0 + 1) Fx_rf hF1181 (by decide)) (by omega)) (by omega) (Cd_ap sf1174 (by omega)))
      have sf1202 : Cd (lg2_1179 = 0 ∧ lb2_1051 < 19999) (ST A1177 (st2_1125) (st2_1151) (15) (30)) := Cd_mk (fun hC => ST_mv (Cg_fx (l0 := 0) (l1 := 0) hQ1182 (Fx_f (w := 0 + 1) Fx_rf hF1181 (by decide)) (by omega)) (by omega) (Cd_ap p1163 (by omega)))
      have hBo1203 : Cd (lg2_1179 = 0 ∧ lb2_1051 < 19999) (Fx [50] (lb + 1) A A1177) := Cd_mk (fun hC => Fx_f (Cd_ap hBo1175 (by omega)) hF1181 (by decide))
      have hmy : mny T0 n = T0 20 (n).toNat := if_pos (by omega); have hk0 : kid T0 n (0 : Int).toNat = T0 21 (n).toNat := kid_29 (by omega); have hd0 : dpt T0 n (0 : Int).toNat = 3 := rfl
      refine jx_ar (pc_q := 105) (st_q := [.int (i32 (3))]) rfl rfl rfl rfl ?_
      refine jx_ld (pc_q := 107) (l_q := jSto1 L1046 7 (.int (i32 (3)))) (st_q := []) rfl rfl ?_
      obtain ⟨L1204, eL1204⟩ : ∃ q, q = jSto1 L1046 7 (.int (i32 (3))) := ⟨_, rfl⟩
      rw [← eL1204]
      have gL1204_0 : jGet L1204 0 = some (.ref 66) := eL1204 ▸ jg_ne (by decide) gL1046_0 rfl
      have gL1204_1 : jGet L1204 1 = some (.int (i32 (n))) := eL1204 ▸ jg_ne (by decide) gL1046_1 rfl
      have gL1204_2 : jGet L1204 2 = some (.int (i32 (1))) := eL1204 ▸ jg_ne (by decide) gL1046_2 rfl
      have gL1204_3 : jGet L1204 3 = some (.int (i32 (T0 25 (n).toNat))) := eL1204 ▸ jg_ne (by decide) gL1046_3 rfl
      have gL1204_4 : jGet L1204 4 = some (.int (i32 (T0 20 (n).toNat))) := eL1204 ▸ jg_ne (by decide) gL1046_4 rfl
      have gL1204_5 : jGet L1204 5 = some (.int (i32 (r1027))) := eL1204 ▸ jg_ne (by decide) gL1046_5 rfl
      have gL1204_6 : jGet L1204 6 = some (.int (i32 ((8 * nw)))) := eL1204 ▸ jg_ne (by decide) gL1046_6 rfl
      have gL1204_7 : jGet L1204 7 = some (.int (i32 (3))) := eL1204 ▸ jg_eq
      refine jx_ld (pc_q := 108) (l_q := L1204) (st_q := [.ref 66]) rfl (jl_aloadn gL1204_0) ?_
      refine jr_get (pc_q := 111) (i := 38) (v := .ref 88) rfl rfl (by decide) rfl rfl ?_
      refine jx_ld (pc_q := 112) (l_q := L1204) (st_q := [.int (i32 (n)), .ref 88]) rfl (jl_iloadn gL1204_1) ?_
      have b1205 : (-2147483648 : Int) ≤ T0 21 (n).toNat ∧ T0 21 (n).toNat ≤ 2147483647 := hWT.2 21 _
      refine jr_ldv (pc_q := 113) (i := 21) (m := 7000) (z := n) (y := T0 21 (n).toNat) rfl (by decide) rfl (by decide) (by omega) (by omega) rfl (show A1177 21 (n).toNat = T0 21 (n).toNat from (congrFun ((hF1181.2 21 rfl).trans ((hF1154.2 21 rfl).trans ((hF1128.2 21 rfl).trans ((hF1103.2 21 rfl).trans ((hF1079.2 21 rfl).trans ((hF1053.2 21 rfl).trans ((hF1030.2 21 rfl).trans (p_0 21 rfl)))))))) _)) ?_
      refine jx_ld (pc_q := 115) (l_q := jSto1 L1204 8 (.int (i32 (T0 21 (n).toNat)))) (st_q := []) rfl rfl ?_
      obtain ⟨L1206, eL1206⟩ : ∃ q, q = jSto1 L1204 8 (.int (i32 (T0 21 (n).toNat))) := ⟨_, rfl⟩
      rw [← eL1206]
      have gL1206_0 : jGet L1206 0 = some (.ref 66) := eL1206 ▸ jg_ne (by decide) gL1204_0 rfl
      have gL1206_1 : jGet L1206 1 = some (.int (i32 (n))) := eL1206 ▸ jg_ne (by decide) gL1204_1 rfl
      have gL1206_2 : jGet L1206 2 = some (.int (i32 (1))) := eL1206 ▸ jg_ne (by decide) gL1204_2 rfl
      have gL1206_3 : jGet L1206 3 = some (.int (i32 (T0 25 (n).toNat))) := eL1206 ▸ jg_ne (by decide) gL1204_3 rfl
      have gL1206_4 : jGet L1206 4 = some (.int (i32 (T0 20 (n).toNat))) := eL1206 ▸ jg_ne (by decide) gL1204_4 rfl
      have gL1206_5 : jGet L1206 5 = some (.int (i32 (r1027))) := eL1206 ▸ jg_ne (by decide) gL1204_5 rfl
      have gL1206_6 : jGet L1206 6 = some (.int (i32 ((8 * nw)))) := eL1206 ▸ jg_ne (by decide) gL1204_6 rfl
      have gL1206_7 : jGet L1206 7 = some (.int (i32 (3))) := eL1206 ▸ jg_ne (by decide) gL1204_7 rfl
      have gL1206_8 : jGet L1206 8 = some (.int (i32 (T0 21 (n).toNat))) := eL1206 ▸ jg_eq
      refine jx_ar (pc_q := 116) (st_q := [.int (i32 (0))]) rfl rfl rfl rfl ?_
      refine jx_ld (pc_q := 118) (l_q := jSto1 L1206 9 (.int (i32 (0)))) (st_q := []) rfl rfl ?_
      obtain ⟨L1207, eL1207⟩ : ∃ q, q = jSto1 L1206 9 (.int (i32 (0))) := ⟨_, rfl⟩
      rw [← eL1207]
      have gL1207_0 : jGet L1207 0 = some (.ref 66) := eL1207 ▸ jg_ne (by decide) gL1206_0 rfl
      have gL1207_1 : jGet L1207 1 = some (.int (i32 (n))) := eL1207 ▸ jg_ne (by decide) gL1206_1 rfl
      have gL1207_2 : jGet L1207 2 = some (.int (i32 (1))) := eL1207 ▸ jg_ne (by decide) gL1206_2 rfl
      have gL1207_3 : jGet L1207 3 = some (.int (i32 (T0 25 (n).toNat))) := eL1207 ▸ jg_ne (by decide) gL1206_3 rfl
      have gL1207_4 : jGet L1207 4 = some (.int (i32 (T0 20 (n).toNat))) := eL1207 ▸ jg_ne (by decide) gL1206_4 rfl
      have gL1207_5 : jGet L1207 5 = some (.int (i32 (r1027))) := eL1207 ▸ jg_ne (by decide) gL1206_5 rfl
      have gL1207_6 : jGet L1207 6 = some (.int (i32 ((8 * nw)))) := eL1207 ▸ jg_ne (by decide) gL1206_6 rfl
      have gL1207_7 : jGet L1207 7 = some (.int (i32 (3))) := eL1207 ▸ jg_ne (by decide) gL1206_7 rfl
      have gL1207_8 : jGet L1207 8 = some (.int (i32 (T0 21 (n).toNat))) := eL1207 ▸ jg_ne (by decide) gL1206_8 rfl
      have gL1207_9 : jGet L1207 9 = some (.int (i32 (0))) := eL1207 ▸ jg_eq
      exact c_genPar_at_118_1 (X := X) (k := k) (hN := hN) (d := d) (T0 := T0) (Q := Q) (F := F) (Sn := Sn) (Vs := Vs) (sb := sb) (pb := pb) (c0 := c0) (c1 := c1) (G := G) (A := A) (T := T) (n := n) (hi := hi) (s0 := s0) (s1 := s1) (D := D) (bd := bd) (st := st) (lg := lg) (lb := lb) (nw := nw) (al := al) (fw := fw) (hd := hd) (hW := hW) (e_st := e_st) (e_lg := e_lg) (e_lb := e_lb) (e_nw := e_nw) (e_al := e_al) (e_fw := e_fw) (h_n := h_n) (p_0 := p_0) (p_1 := p_1) (p_2 := p_2) (p_3 := p_3) (p_4 := p_4) (p_5 := p_5) (p_6 := p_6) (p_7 := p_7) (p_8 := p_8) (p_9 := p_9) (p_10 := p_10) (p_11 := p_11) (p_12 := p_12) (p_13 := p_13) (p_14 := p_14) (p_15 := p_15) (p_16 := p_16) (p_17 := p_17) (p_18 := p_18) (p_19 := p_19) (p_20 := p_20) (p_21 := p_21) (p_22 := p_22) (p_23 := p_23) (p_24 := p_24) (p_25 := p_25) (p_26 := p_26) (p_27 := p_27) (p_28 := p_28) (p_29 := p_29) (p_30 := p_30) _ L1207 G1176 A1177 (T0 25 (n).toNat) (T0 20 (n).toNat) (r1027) ((8 * nw)) (3) (T0 21 (n).toNat) (0) (st2_1178) (lg2_1179) (lb2_1051) (fw) ((fun _ => 0)) rfl gL1207_0 gL1207_1 gL1207_2 gL1207_3 gL1207_4 gL1207_5 gL1207_6 gL1207_7 gL1207_8 gL1207_9 hW1180 hF1192 hC1193 hAl1194 hBp1195 (Cd_mk (fun hC => Cd_ap hBo1203 (by omega))) ((e1183)) ((e1184)) (((hF1181.1 77 rfl).trans ((hF1154.1 77 rfl).trans ((hF1128.1 77 rfl).trans ((hF1103.1 77 rfl).trans ((hF1079.1 77 rfl).trans (e1057))))))) ((congrFun ((hF1181.2 51 rfl).trans ((hF1154.2 51 rfl).trans ((hF1128.2 51 rfl).trans ((hF1103.2 51 rfl).trans ((hF1079.2 51 rfl).trans ((hF1053.2 51 rfl).trans (hF1030.2 51 rfl))))))) _).trans (e_fw)) (((hF1181.1 81 rfl).trans ((hF1154.1 81 rfl).trans ((hF1128.1 81 rfl).trans ((hF1103.1 81 rfl).trans ((hF1079.1 81 rfl).trans ((hF1053.1 81 rfl).trans ((hF1030.1 81 rfl).trans (e_nw))))))))) (((hF1181.1 89 rfl).trans ((hF1154.1 89 rfl).trans ((hF1128.1 89 rfl).trans ((hF1103.1 89 rfl).trans ((hF1079.1 89 rfl).trans ((hF1053.1 89 rfl).trans ((hF1030.1 89 rfl).trans (e_al))))))))) (by omega) (by omega) (by omega) (by omega) (by omega) (by omega) (by omega) (by omega) (by omega) (by omega) (by omega) (by omega) ((Cd_mk (fun hC => by omega))) (by omega) (by omega) (by omega) (by omega) (by omega) (by omega) (by omega) (by omega) (by omega) (by omega) (by omega) ((Cd_mk (fun hC => (by have hr := Cd_ap p1036 (by omega); omega)))) (by omega) (sf1196) (sf1197) ((PE_0 (by omega))) ((PE_0 (by omega))) ((LBd_0 (by omega))) ((Cd_mk (fun hC => (gP1_0 rfl (PL_su (Cd_ap sf1198 (by omega)) (by omega) (by omega)) (by omega) (Cd_ap sf1199 (by omega)) (Cd_ap sf1200 (by omega)) (Cd_ap sf1201 (by omega)) (Cd_ap sf1202 (by omega)) (Cd_ap p1190 (by omega)) rfl (by omega)))))
