set_option maxRecDepth 20000 in
set_option maxHeartbeats 4000000 in
theorem c_genPar_at_312_0 {X : jX} {k : Nat} (hN : GN X k) {d : Nat} {T0 : Nat → Nat → Int} {Q F Sn : Int → Int} {Vs : Nat → Prop} {sb pb : Int} {c0 c1 : jC} {G : Nat → Int} {A : Nat → Nat → Int} {T : jH} {n : Int} {hi s0 s1 D bd : Int} {st lg lb nw al fw : Int} (hd : 2 * k + 63 ≤ d + 1) (hW : Wk G A) (e_st : G 70 = st) (e_lg : G 79 = lg) (e_lb : G 77 = lb) (e_nw : G 81 = nw) (e_al : G 89 = al) (e_fw : A 51 (nw).toNat = fw) (h_n : (-2147483648 : Int) ≤ n ∧ n ≤ 2147483647) (p_0 : TA T0 A) (p_1 : FA F (nw) A) (p_2 : SA T0 Vs Sn A) (p_3 : VW T0 Vs (nw)) (p_4 : 0 ≤ nw) (p_5 : nw + (k : Int) + 1 ≤ 38) (p_6 : 0 ≤ al) (p_7 : al + (k : Int) + 1 ≤ 38) (p_8 : 0 ≤ st) (p_9 : st ≤ 7000) (p_10 : 0 ≤ lb) (p_11 : lb + bd + 7000 - st ≤ 1900000000) (p_12 : hi ≤ 6999) (p_13 : sb ≤ 202) (p_14 : 0 ≤ n) (p_15 : n < hi) (p_16 : 0 ≤ s0) (p_17 : s1 ≤ sb) (p_18 : KD T0 sb pb k Vs (n) (hi) (s0) (s1) (nw) (D)) (p_19 : VB (Vs) (s0)) (p_20 : T0 15 (n).toNat = 28 ∨ T0 15 (n).toNat = 29) (p_21 : 0 ≤ T0 25 (n).toNat) (p_22 : T0 25 (n).toNat + 3 ≤ 4000) (p_23 : WB (n) (hi) (bd)) (p_24 : 0 ≤ D) (p_25 : D ≤ 4000) (p_26 : -4000 ≤ fw - D) (p_27 : fw ≤ 0) (p_28 : pb ≤ 24) (p_29 : PV T0 pb) (p_30 : PA Q pb A) : ∀ (m : Nat) (L : jL) (Gx : Nat → Int) (Ax : Nat → Nat → Int) (w mn le b6 c f9 i st1 lg1 lb1 fw1 : Int) (La : Int → Int), (mn - i).toNat = m → jGet L 0 = some (.ref 66) → jGet L 1 = some (.int (i32 (n))) → jGet L 2 = some (.int (i32 (0))) → jGet L 3 = some (.int (i32 w)) → jGet L 4 = some (.int (i32 mn)) → jGet L 5 = some (.int (i32 le)) → jGet L 6 = some (.int (i32 b6)) → jGet L 8 = some (.int (i32 c)) → jGet L 9 = some (.int (i32 f9)) → jGet L 10 = some (.int (i32 i)) → Wk Gx Ax → Fr [70, 77, 79, 81, 89] [13, 44, 45, 46, 47, 50, 51, 56, 57, 58] G A Gx Ax → Fx [44, 45, 46, 47] (st) A Ax → Fx [58] (8 * al) A Ax → Fx [56, 57] (8 * nw) A Ax → Cd (lg1 = 0 ∧ lb1 < 19999) (Fx [50] (lb + 1) A Ax) → Gx 70 = st1 → Gx 79 = lg1 → Gx 77 = lb1 → Ax 51 (nw).toNat = fw1 → Gx 81 = nw → Gx 89 = al → ((-2147483648 : Int) ≤ w ∧ w ≤ 2147483647) → ((-2147483648 : Int) ≤ mn ∧ mn ≤ 2147483647) → ((-2147483648 : Int) ≤ le ∧ le ≤ 2147483647) → ((-2147483648 : Int) ≤ b6 ∧ b6 ≤ 2147483647) → ((-2147483648 : Int) ≤ c ∧ c ≤ 2147483647) → ((-2147483648 : Int) ≤ f9 ∧ f9 ≤ 2147483647) → ((-2147483648 : Int) ≤ i ∧ i ≤ 2147483647) → (st ≤ st1) → (st1 ≤ 7000) → (lg ≤ lg1) → (lg1 ≤ 1) → (lb + 2 ≤ lb1) → (Cd (lg1 = 0) (lb1 - lb ≤ st1 - st)) → (lb1 - lb ≤ st1 - st + bd - 100000) → (w = T0 25 (n).toNat) → (mn = T0 18 (n).toNat) → (b6 = 8 * nw) → (c = kid T0 n (i).toNat) → (f9 = fw) → (0 ≤ i) → (i ≤ mn) → (fw1 = fw) → (1 ≤ le) → (le ≤ 19999) → (Cd (lb1 < 20000) (le = lb + 1)) → (T0 15 (n).toNat = 28) → (FA F (nw) Ax) → (SA T0 Vs Sn Ax) → (PE 56 (La) (b6) (mn) Ax) → (PE 57 (fL T0 F nw n) (b6) (mn) Ax) → (LBd (La) (mn)) → (Cd (lg1 = 0 ∧ lb1 < 19999) (gP2 T0 Ax Q k (La) F Sn nw (n) ((i).toNat) (le) (st) (st1) (lb + 1) (lb1))) → wj X d jm358 (312, L, [], rV c0 c1 Gx Ax T) (fun o V' => ∃ (G' : Nat → Int) (A' : Nat → Nat → Int) (st2 : Int) (lg2 : Int) (lb2 : Int) (nw2 : Int) (al2 : Int) (fw2 : Int), V' = rV c0 c1 G' A' T ∧ o = .inl none ∧ Wk G' A' ∧ Fr [70, 77, 79, 81, 89] [13, 44, 45, 46, 47, 50, 51, 56, 57, 58] G A G' A' ∧ Fx [44, 45, 46, 47] (st) A A' ∧ Fx [58] (8 * al) A A' ∧ Fx [56, 57] (8 * nw) A A' ∧ G' 70 = st2 ∧ G' 79 = lg2 ∧ G' 77 = lb2 ∧ G' 81 = nw2 ∧ G' 89 = al2 ∧ A' 51 (nw).toNat = fw2 ∧ (st ≤ st2) ∧ (st2 ≤ 7000) ∧ (lg ≤ lg2) ∧ (lg2 ≤ 1) ∧ (lb ≤ lb2) ∧ (Cd (lg2 = 0) (lb2 - lb ≤ st2 - st)) ∧ (lb2 - lb ≤ st2 - st + bd) ∧ (Cd (lg2 = 0 ∧ lb2 < 19999) (Fx [50] (lb + 1) A A')) ∧ (nw2 = nw) ∧ (al2 = al) ∧ (fw2 = fw) ∧ (FA F (nw) A') ∧ (SA T0 Vs Sn A') ∧ (Cd (lg2 = 0 ∧ lb2 < 19999) (gPa T0 A' (gP T0 A' Q k) F Sn nw (n) (st) (st2) (lb) (lb2))) ∧ True) := by
  have hF0 : Fr [70, 77, 79, 81, 89] [13, 44, 45, 46, 47, 50, 51, 56, 57, 58] G A G A := Fr_rf
  have hC0 : Fx [44, 45, 46, 47] (st) A A := Fx_rf
  have hAl0 : Fx [58] (8 * al) A A := Fx_rf
  have hBp0 : Fx [56, 57] (8 * nw) A A := Fx_rf
  have b_st : (-2147483648 : Int) ≤ st ∧ st ≤ 2147483647 := e_st ▸ hW.1 70
  have b_lg : (0 : Int) ≤ lg ∧ lg ≤ 1 := e_lg ▸ hW.1 79
  have b_lb : (-2147483648 : Int) ≤ lb ∧ lb ≤ 2147483647 := e_lb ▸ hW.1 77
  have b_nw : (-2147483648 : Int) ≤ nw ∧ nw ≤ 2147483647 := e_nw ▸ hW.1 81
  have b_al : (-2147483648 : Int) ≤ al ∧ al ≤ 2147483647 := e_al ▸ hW.1 89
  have b_fw : (-2147483648 : Int) ≤ fw ∧ fw ≤ 2147483647 := e_fw ▸ hW.2 51 _
  have hWT := TA_w hW p_0
  have hBo0 : Cd (lg = 0 ∧ lb < 19999) (Fx [50] (lb + 1) A A) := Cd_mk (fun _ => Fx_rf)
  have hfw := FA_at p_1 p_4 e_fw
  obtain ⟨hk1, hk2, hk3, hk4⟩ := p_18
  have hbp := WB_p p_23 (by omega) (by omega) (by omega)
  intro m
  induction m using Nat.strongRecOn with
  | ind m ih312_0 =>
    intro L Gx Ax w mn le b6 c f9 i st1 lg1 lb1 fw1 La hm gL_0 gL_1 gL_2 gL_3 gL_4 gL_5 gL_6 gL_8 gL_9 gL_10 hWx hFx hCx hAlx hBpx hBox ex_st1 ex_lg1 ex_lb1 ex_fw1 fx_81 fx_89 rx_w rx_mn rx_le rx_b6 rx_c rx_f9 rx_i iv_0 iv_1 iv_2 iv_3 iv_4 iv_5 iv_6 iv_7 iv_8 iv_9 iv_10 iv_11 iv_12 iv_13 iv_14 iv_15 iv_16 iv_17 iv_18 iv_19 iv_20 iv_21 iv_22 iv_23 iv_24
    have b_st1 : (-2147483648 : Int) ≤ st1 ∧ st1 ≤ 2147483647 := ex_st1 ▸ hWx.1 70
    have b_lg1 : (0 : Int) ≤ lg1 ∧ lg1 ≤ 1 := ex_lg1 ▸ hWx.1 79
    have b_lb1 : (-2147483648 : Int) ≤ lb1 ∧ lb1 ≤ 2147483647 := ex_lb1 ▸ hWx.1 77
    have hmy : mny T0 n = T0 18 (n).toNat := if_neg (by omega)
    refine jx_ld (pc' := 314) (l' := L) (st' := [.int (i32 (i))]) rfl (jl_iload gL_10) ?_
    refine jx_ld (pc' := 316) (l' := L) (st' := [.int (i32 (mn)), .int (i32 (i))]) rfl (jl_iload gL_4) ?_
    refine jx_icmp_ge (pc' := 319) (tg := 459) rfl rfl rfl (Int.le_trans (by decide : (-2147483648 : Int) ≤ -2147483648) rx_i.1) (Int.le_trans rx_i.2 (by decide : (2147483647 : Int) ≤ 2147483647)) (Int.le_trans (by decide : (-2147483648 : Int) ≤ -2147483648) rx_mn.1) (Int.le_trans rx_mn.2 (by decide : (2147483647 : Int) ≤ 2147483647)) (fun h1 => ?_) (fun h1 => ?_)
    · have _q := h1
      refine jx_ld (pc' := 460) (l' := L) (st' := [.ref 66]) rfl (jl_aloadn gL_0) ?_
      refine jx_ld (pc' := 462) (l' := L) (st' := [.int (i32 (le)), .ref 66]) rfl (jl_iload gL_5) ?_
      refine jx_vr (pc' := 465) (as := [.int (i32 (le))]) (st := []) rfl rfl rfl rfl ⟨rfl, rfl, Nat.le_of_ble_eq_true rfl⟩ rfl rfl (c_set (dd := d) (hd := by omega) (hW := hWx) (l := le) (st := st1) (e_st := show Gx 70 = st1 from (ex_st1))  (h_l := ⟨(Int.le_trans (by decide : (-2147483648 : Int) ≤ -2147483648) rx_le.1), (Int.le_trans rx_le.2 (by decide : (2147483647 : Int) ≤ 2147483647))⟩)  (p_0 := by omega) (p_1 := by omega)) (fun o V' hq => ?_)
      obtain ⟨G2, A3, ls2_4, rfl, rfl, hW5, hF6, e7, p8, q9⟩ := hq
      have hF10 := Fr_tr hFx hF6 (Fr_sub (by decide)) (Fr_sub (by decide))
      have hC11 := Fx_f hCx hF6 (by decide)
      have hAl12 := Fx_f hAlx hF6 (by decide)
      have hBp13 := Fx_f hBpx hF6 (by decide)
      have bls2_4 : (-2147483648 : Int) ≤ ls2_4 ∧ ls2_4 ≤ 2147483647 := e7 ▸ hW5.2 50 _
      refine .inl ⟨rfl, ?_⟩
      have a14 := q9
      have sf15 := FA_fr ((congrFun a14 51).trans (uA_ne (by decide))) iv_19
      have sf16 := SA_fr ((congrFun a14 13).trans (uA_ne (by decide))) iv_20
      have sf17 : PE 56 (La) (b6) (mn) A3 := PE_fr ((congrFun a14 56).trans (uA_ne (by decide))) iv_21
      have sf18 : PE 57 (fL T0 F nw n) (b6) (mn) A3 := PE_fr ((congrFun a14 57).trans (uA_ne (by decide))) iv_22
      have sf19 : Cd (lg1 = 0 ∧ lb1 < 19999) (gP2 T0 A3 Q k (La) F Sn nw (n) ((i).toNat) (le) (st) (st1) (lb + 1) (lb1)) := Cd_mk (fun hC => gP2_mv (Cg_set (K := st1) a14 (by omega) (by have hr := Cd_ap iv_17 (by omega); omega)) (Int.le_refl _) (Cd_ap iv_24 (by omega)))
      have hBo20 : Cd (lg1 = 0 ∧ lb1 < 19999) (Fx [50] (lb + 1) A A3) := Cd_mk (fun hC => Fx_u a14 (Cd_ap hBox (by omega)) (by omega) (by have hr := Cd_ap iv_17 (by omega); omega))
      refine jx_rt (v := none) rfl rfl rfl rfl rfl rfl ?_
      exact ⟨_, _, st1, lg1, lb1, nw, al, fw1, rfl, rfl, hW5, hF10, hC11, hAl12, hBp13, ((hF6.1 70 rfl).trans (ex_st1)), ((hF6.1 79 rfl).trans (ex_lg1)), ((hF6.1 77 rfl).trans (ex_lb1)), ((hF6.1 81 rfl).trans (fx_81)), ((hF6.1 89 rfl).trans (fx_89)), (congrFun (hF6.2 51 rfl) _).trans (ex_fw1), by omega, by omega, by omega, by omega, by omega, (Cd_mk (fun hC => by have := Cd_ap iv_5 (by omega); omega)), by omega, (Cd_mk (fun hC => Cd_ap hBo20 (by omega))), by omega, by omega, by omega, sf15, sf16, (Cd_mk (fun hC => (gPa_mk (m1 := lb + 1) (by omega) (Cd_ap sf19 (by omega)) (by omega) (LZ_mk (l0 := lb) (l1 := lb + 1) (by omega) (by have hr := Cd_ap iv_17 (by omega); omega) (by have hr := Cd_ap iv_17 (by omega); omega) ((show A3 50 (le).toNat = ls2_4 from (e7)).trans (by omega)))))), trivial⟩
    · have _q := h1
      have _q : True := trivial
      refine jx_ld (pc' := 320) (l' := L) (st' := [.ref 66]) rfl (jl_aloadn gL_0) ?_
      refine jr_get (pc' := 323) (i := 79) (v := .int (i32 (lg1))) rfl rfl (by decide) (rFv_eq (by decide) (show Gx 79 = lg1 from (ex_lg1))) rfl ?_
      refine jx_if_ne (pc' := 326) (tg := 459) rfl rfl rfl (Int.le_trans (by decide : (-2147483648 : Int) ≤ 0) b_lg1.1) (Int.le_trans b_lg1.2 (by decide : (1 : Int) ≤ 2147483647)) (fun h21 => ?_) (fun h21 => ?_)
      · have _q := h21
        refine jx_ld (pc' := 460) (l' := L) (st' := [.ref 66]) rfl (jl_aloadn gL_0) ?_
        refine jx_ld (pc' := 462) (l' := L) (st' := [.int (i32 (le)), .ref 66]) rfl (jl_iload gL_5) ?_
        refine jx_vr (pc' := 465) (as := [.int (i32 (le))]) (st := []) rfl rfl rfl rfl ⟨rfl, rfl, Nat.le_of_ble_eq_true rfl⟩ rfl rfl (c_set (dd := d) (hd := by omega) (hW := hWx) (l := le) (st := st1) (e_st := show Gx 70 = st1 from (ex_st1))  (h_l := ⟨(Int.le_trans (by decide : (-2147483648 : Int) ≤ -2147483648) rx_le.1), (Int.le_trans rx_le.2 (by decide : (2147483647 : Int) ≤ 2147483647))⟩)  (p_0 := by omega) (p_1 := by omega)) (fun o V' hq => ?_)
        obtain ⟨G22, A23, ls2_24, rfl, rfl, hW25, hF26, e27, p28, q29⟩ := hq
        have hF30 := Fr_tr hFx hF26 (Fr_sub (by decide)) (Fr_sub (by decide))
        have hC31 := Fx_f hCx hF26 (by decide)
        have hAl32 := Fx_f hAlx hF26 (by decide)
        have hBp33 := Fx_f hBpx hF26 (by decide)
        have bls2_24 : (-2147483648 : Int) ≤ ls2_24 ∧ ls2_24 ≤ 2147483647 := e27 ▸ hW25.2 50 _
        refine .inl ⟨rfl, ?_⟩
        have a34 := q29
        have sf35 := FA_fr ((congrFun a34 51).trans (uA_ne (by decide))) iv_19
        have sf36 := SA_fr ((congrFun a34 13).trans (uA_ne (by decide))) iv_20
        have sf37 : PE 56 (La) (b6) (mn) A23 := PE_fr ((congrFun a34 56).trans (uA_ne (by decide))) iv_21
        have sf38 : PE 57 (fL T0 F nw n) (b6) (mn) A23 := PE_fr ((congrFun a34 57).trans (uA_ne (by decide))) iv_22
        have sf39 : Cd (lg1 = 0 ∧ lb1 < 19999) (gP2 T0 A23 Q k (La) F Sn nw (n) ((i).toNat) (le) (st) (st1) (lb + 1) (lb1)) := Cd_mk (fun hC => gP2_mv (Cg_set (K := st1) a34 (by omega) (by have hr := Cd_ap iv_17 (by omega); omega)) (Int.le_refl _) (Cd_ap iv_24 (by omega)))
        have hBo40 : Cd (lg1 = 0 ∧ lb1 < 19999) (Fx [50] (lb + 1) A A23) := Cd_mk (fun hC => Fx_u a34 (Cd_ap hBox (by omega)) (by omega) (by have hr := Cd_ap iv_17 (by omega); omega))
        refine jx_rt (v := none) rfl rfl rfl rfl rfl rfl ?_
        exact ⟨_, _, st1, lg1, lb1, nw, al, fw1, rfl, rfl, hW25, hF30, hC31, hAl32, hBp33, ((hF26.1 70 rfl).trans (ex_st1)), ((hF26.1 79 rfl).trans (ex_lg1)), ((hF26.1 77 rfl).trans (ex_lb1)), ((hF26.1 81 rfl).trans (fx_81)), ((hF26.1 89 rfl).trans (fx_89)), (congrFun (hF26.2 51 rfl) _).trans (ex_fw1), by omega, by omega, by omega, by omega, by omega, (Cd_mk (fun hC => by have := Cd_ap iv_5 (by omega); omega)), by omega, (Cd_mk (fun hC => Cd_ap hBo40 (by omega))), by omega, by omega, by omega, sf35, sf36, (Cd_mk (fun hC => (absurd hC.1 (by omega)))), trivial⟩
      · have _q := h21
        obtain ⟨hj1, ⟨a8, b8, u8, v8, ha8, hb8, hu8, hu9, hv8, hw8⟩, hj3, hj4, hj5, hj6, hj7⟩ := hk4 (i).toNat (by omega); have hin8 := wP_in hw8; have hk26 : T0 26 (c).toNat = T0 26 (kid T0 n (i).toNat).toNat := (by rw [iv_10]); have hk27 : T0 27 (c).toNat = T0 27 (kid T0 n (i).toNat).toNat := (by rw [iv_10]); have hk22 : T0 22 (c).toNat = T0 22 (kid T0 n (i).toNat).toNat := (by rw [iv_10]); have hla : Ax 56 (b6 + i).toNat = La i := iv_21 i (by omega) (by omega); have hlb := iv_23 i (by omega) (by omega); have hfl : Ax 57 (b6 + i).toNat = F nw - dpt T0 n (i).toNat - T0 26 (kid T0 n (i).toNat).toNat := iv_22 i (by omega) (by omega); have hks := kid_s (T := T0) (p := n) (i := i) (by omega) iv_18
        refine jx_ld (pc' := 327) (l' := L) (st' := [.ref 66]) rfl (jl_aloadn gL_0) ?_
        refine jx_ld (pc' := 328) (l' := L) (st' := [.ref 66, .ref 66]) rfl (jl_aloadn gL_0) ?_
        refine jr_get (pc' := 331) (i := 86) (v := .ref 123) rfl rfl (by decide) rfl rfl ?_
        refine jx_ld (pc' := 333) (l' := L) (st' := [.int (i32 (b6)), .ref 123, .ref 66]) rfl (jl_iload gL_6) ?_
        refine jx_ld (pc' := 335) (l' := L) (st' := [.int (i32 (i)), .int (i32 (b6)), .ref 123, .ref 66]) rfl (jl_iload gL_10) ?_
        refine jx_add (pc' := 336) rfl rfl ?_
        have b41 : (-2147483648 : Int) ≤ Ax 56 ((b6 + i)).toNat ∧ Ax 56 ((b6 + i)).toNat ≤ 2147483647 := hWx.2 56 _
        refine jr_ldv (pc' := 337) (i := 56) (m := 320) (z := (b6 + i)) (y := Ax 56 ((b6 + i)).toNat) rfl (by decide) rfl (by decide) (by omega) (by omega) rfl (show Ax 56 ((b6 + i)).toNat = Ax 56 ((b6 + i)).toNat from rfl) ?_
        refine jx_vr (pc' := 340) (as := [.int (i32 (Ax 56 ((b6 + i)).toNat))]) (st := []) rfl rfl rfl rfl ⟨rfl, rfl, Nat.le_of_ble_eq_true rfl⟩ rfl rfl (c_set (dd := d) (hd := by omega) (hW := hWx) (l := Ax 56 ((b6 + i)).toNat) (st := st1) (e_st := show Gx 70 = st1 from (ex_st1))  (h_l := ⟨(Int.le_trans (by decide : (-2147483648 : Int) ≤ -2147483648) b41.1), (Int.le_trans b41.2 (by decide : (2147483647 : Int) ≤ 2147483647))⟩)  (p_0 := by omega) (p_1 := by omega)) (fun o V' hq => ?_)
        obtain ⟨G42, A43, ls2_44, rfl, rfl, hW45, hF46, e47, p48, q49⟩ := hq
        have hF50 := Fr_tr hFx hF46 (Fr_sub (by decide)) (Fr_sub (by decide))
        have hC51 := Fx_f hCx hF46 (by decide)
        have hAl52 := Fx_f hAlx hF46 (by decide)
        have hBp53 := Fx_f hBpx hF46 (by decide)
        have bls2_44 : (-2147483648 : Int) ≤ ls2_44 ∧ ls2_44 ≤ 2147483647 := e47 ▸ hW45.2 50 _
        refine .inl ⟨rfl, ?_⟩
        have a54 := q49
        have sf55 := FA_fr ((congrFun a54 51).trans (uA_ne (by decide))) iv_19
        have sf56 := SA_fr ((congrFun a54 13).trans (uA_ne (by decide))) iv_20
        have sf57 : PE 56 (La) (b6) (mn) A43 := PE_fr ((congrFun a54 56).trans (uA_ne (by decide))) iv_21
        have sf58 : PE 57 (fL T0 F nw n) (b6) (mn) A43 := PE_fr ((congrFun a54 57).trans (uA_ne (by decide))) iv_22
        have sf59 : Cd (lg1 = 0 ∧ lb1 < 19999) (gP2 T0 A43 Q k (La) F Sn nw (n) ((i).toNat) (le) (st) (st1) (lb + 1) (lb1)) := Cd_mk (fun hC => gP2_set a54 hla (by omega) (by omega) (Cd_ap iv_24 (by omega)))
        have hBo60 : Cd (lg1 = 0 ∧ lb1 < 19999) (Fx [50] (lb + 1) A A43) := Cd_mk (fun hC => Fx_u a54 (Cd_ap hBox (by omega)) (by omega) (by omega))
        have hlsi : Cd (lg1 = 0 ∧ lb1 < 19999) (LZ A43 (La i) (st1) (lb + 1) (lb1)) := Cd_mk (fun hC => LZ_mk2 hla (by omega) (gP2_La (Cd_ap sf59 (by omega)) (by omega) (by omega)) ((show A43 50 (Ax 56 ((b6 + i)).toNat).toNat = ls2_44 from (e47)).trans (by omega)))
        refine jx_ld (pc' := 341) (l' := L) (st' := [.int (i32 (0))]) rfl (jl_iloadn gL_2) ?_
        refine jx_if_eq (pc' := 344) (tg := 364) rfl rfl rfl (by decide) (by decide) (fun h61 => ?_) (fun h61 => ?_)
        · have _q := h61
          have hSAk := SA_k28 (n := n) (j := (i).toNat) iv_18 sf56
          refine jx_ld (pc' := 365) (l' := L) (st' := [.ref 66]) rfl (jl_aloadn gL_0) ?_
          refine jx_ar (pc' := 366) (st' := [.ref 66, .ref 66]) rfl rfl rfl rfl ?_
          refine jr_get (pc' := 369) (i := 81) (v := .int (i32 (nw))) rfl rfl (by decide) (rFv_eq (by decide) (show G42 81 = nw from ((hF46.1 81 rfl).trans (fx_81)))) rfl ?_
          refine jx_ar (pc' := 370) (st' := [.int (i32 (1)), .int (i32 (nw)), .ref 66]) rfl rfl rfl rfl ?_
          refine jx_add (pc' := 371) rfl rfl ?_
          refine jr_put (pc' := 374) (i := 81) (z := (nw + 1)) rfl rfl (by decide) rfl rfl rfl rfl rfl rfl ?_
          have hW62 : Wk (uG G42 81 ((nw + 1))) A43 := Wk_g hW45 (show (-2147483648 : Int) ≤ (nw + 1) by omega) (show (nw + 1) ≤ (2147483647 : Int) by omega)
          have hF63 := Fr_g (z := (nw + 1)) (i := 81) hF50 (by decide)
          refine jx_ld (pc' := 375) (l' := L) (st' := [.ref 66]) rfl (jl_aloadn gL_0) ?_
          refine jr_get (pc' := 378) (i := 80) (v := .ref 118) rfl rfl (by decide) rfl rfl ?_
          refine jx_ld (pc' := 379) (l' := L) (st' := [.ref 66, .ref 118]) rfl (jl_aloadn gL_0) ?_
          refine jr_get (pc' := 382) (i := 81) (v := .int (i32 ((nw + 1)))) rfl rfl (by decide) rfl rfl ?_
          refine jx_ld (pc' := 383) (l' := L) (st' := [.ref 66, .int (i32 ((nw + 1))), .ref 118]) rfl (jl_aloadn gL_0) ?_
          refine jr_get (pc' := 386) (i := 87) (v := .ref 124) rfl rfl (by decide) rfl rfl ?_
          refine jx_ld (pc' := 388) (l' := L) (st' := [.int (i32 (b6)), .ref 124, .int (i32 ((nw + 1))), .ref 118]) rfl (jl_iload gL_6) ?_
          refine jx_ld (pc' := 390) (l' := L) (st' := [.int (i32 (i)), .int (i32 (b6)), .ref 124, .int (i32 ((nw + 1))), .ref 118]) rfl (jl_iload gL_10) ?_
          refine jx_add (pc' := 391) rfl rfl ?_
          have _q : True := trivial
          have b64 : (-2147483648 : Int) ≤ Ax 57 ((b6 + i)).toNat ∧ Ax 57 ((b6 + i)).toNat ≤ 2147483647 := hWx.2 57 _
          refine jr_ldv (pc' := 392) (i := 57) (m := 320) (z := (b6 + i)) (y := Ax 57 ((b6 + i)).toNat) rfl (by decide) rfl (by decide) (by omega) (by omega) rfl (show A43 57 ((b6 + i)).toNat = Ax 57 ((b6 + i)).toNat from (congrFun (hF46.2 57 rfl) _)) ?_
          have _q : True := trivial
          refine jr_st (pc' := 393) (i := 51) (m := 40) (z := (nw + 1)) (y := Ax 57 ((b6 + i)).toNat) rfl (by decide) rfl (by decide) (by omega) (by omega) rfl ?_
          have hW66 : Wk (uG G42 81 ((nw + 1))) (uA A43 51 ((nw + 1)).toNat (Ax 57 ((b6 + i)).toNat)) := Wk_a hW62 (show (-2147483648 : Int) ≤ Ax 57 ((b6 + i)).toNat by omega) (show Ax 57 ((b6 + i)).toNat ≤ (2147483647 : Int) by omega)
          have hF67 := Fr_a (z := Ax 57 ((b6 + i)).toNat) (k := 51) (n := ((nw + 1)).toNat) hF63 (by decide)
          obtain ⟨A65, eA65⟩ : ∃ q, q = uA A43 51 ((nw + 1)).toNat (Ax 57 ((b6 + i)).toNat) := ⟨_, rfl⟩
          rw [← eA65]
          rw [← eA65] at hW66 hF67
          have q68 : A65 51 ((nw + 1)).toNat = Ax 57 ((b6 + i)).toNat := by rw [eA65]; exact uA_eq
          have hC69 : Fx [44, 45, 46, 47] (st) A A65 := eA65 ▸ Fx_n hC51 rfl
          have hAl70 : Fx [58] (8 * al) A A65 := eA65 ▸ Fx_n hAl52 rfl
          have hBp71 : Fx [56, 57] (8 * nw) A A65 := eA65 ▸ Fx_n hBp53 rfl
          have sf72 := SA_fr ((congrFun eA65 13).trans (uA_ne (by decide))) sf56
          have sf73 : PE 56 (La) (b6) (mn) A65 := PE_fr ((congrFun eA65 56).trans (uA_ne (by decide))) sf57
          have sf74 : PE 57 (fL T0 F nw n) (b6) (mn) A65 := PE_fr ((congrFun eA65 57).trans (uA_ne (by decide))) sf58
          have sf75 : Cd (lg1 = 0 ∧ lb1 < 19999) (gP2 T0 A65 Q k (La) F Sn nw (n) ((i).toNat) (le) (st) (st1) (lb + 1) (lb1)) := Cd_mk (fun hC => gP2_mv (Cg_ne (K := st1) eA65 rfl) (Int.le_refl _) (Cd_ap sf59 (by omega)))
          have sf76 : Cd (lg1 = 0 ∧ lb1 < 19999) (LZ A65 (La i) (st1) (lb + 1) (lb1)) := Cd_mk (fun hC => LZ_mv (Cg_ne (K := st1) eA65 rfl) (Int.le_refl _) (Cd_ap hlsi (by omega)))
          have sf77 := SA_fr ((congrFun eA65 13).trans (uA_ne (by decide))) hSAk
          obtain ⟨b1, hb1⟩ : ∃ b, WB a8 b8 b := WB_ex _ _; have hbb := WB_in p_23 hb1 (by omega) (by omega) (by omega); have hFAk := FA_st (F := F) (F' := fB T0 F nw n (i).toNat) eA65 sf55 p_4 (by omega) fB_l (fB_n.trans (by omega)) (by omega) (by omega); have hVWk := VW_kd (n := n) p_3 (fun q => by rw [(hk3 q).1]; exact (hk3 q).2.2.2); have hVBk := VB_kd (T := T0) (n := n) (u := u8) p_19 (by omega) (fun q => ⟨(hk3 q).1, hu9 q⟩)
          refine jx_ld (pc' := 394) (l' := L) (st' := [.ref 66]) rfl (jl_aloadn gL_0) ?_
          refine jx_ld (pc' := 396) (l' := L) (st' := [.int (i32 (c)), .ref 66]) rfl (jl_iload gL_8) ?_
          refine jx_vr (pc' := 399) (as := [.int (i32 (c))]) (st := []) rfl rfl rfl rfl ⟨rfl, rfl, Nat.le_of_ble_eq_true rfl⟩ rfl rfl (hN (dd := d) (hd := by omega) (hW := hW66) (p := c) (lo := a8) (hi := b8) (s0 := u8) (s1 := v8) (fr := 1) (z := T0 26 (c).toNat) (D := T0 27 (c).toNat) (bd := b1) (st := st1) (e_st := show (uG G42 81 ((nw + 1))) 70 = st1 from ((hF46.1 70 rfl).trans (ex_st1))) (lg := lg1) (e_lg := show (uG G42 81 ((nw + 1))) 79 = lg1 from ((hF46.1 79 rfl).trans (ex_lg1))) (lb := lb1) (e_lb := show (uG G42 81 ((nw + 1))) 77 = lb1 from ((hF46.1 77 rfl).trans (ex_lb1))) (nw := (nw + 1)) (e_nw := show (uG G42 81 ((nw + 1))) 81 = (nw + 1) from rfl) (al := al) (e_al := show (uG G42 81 ((nw + 1))) 89 = al from ((hF46.1 89 rfl).trans (fx_89))) (fw := Ax 57 ((b6 + i)).toNat) (e_fw := show A65 51 ((nw + 1)).toNat = Ax 57 ((b6 + i)).toNat from (q68))  (h_p := ⟨(Int.le_trans (by decide : (-2147483648 : Int) ≤ -2147483648) rx_c.1), (Int.le_trans rx_c.2 (by decide : (2147483647 : Int) ≤ 2147483647))⟩)  (p_0 := (TA_fr hF67 (by decide) p_0)) (p_1 := hFAk) (p_2 := sf77) (p_3 := hVWk) (p_4 := by omega) (p_5 := by omega) (p_6 := by omega) (p_7 := by omega) (p_8 := by omega) (p_9 := by omega) (p_10 := by omega) (p_11 := by omega) (p_12 := by omega) (p_13 := by omega) (p_14 := by omega) (p_15 := by omega) (p_16 := by omega) (p_17 := (wP_c iv_10 hw8)) (p_18 := (VB_mo hVBk (by omega))) (p_19 := (lP_c iv_10 hj3)) (p_20 := hb1) (p_21 := by omega) (p_22 := by omega) (p_23 := by omega) (p_24 := by omega) (p_25 := by omega) (p_26 := by omega) (p_27 := by omega) (p_28 := p_29) (p_29 := (PA_fr (hF67.2 52 rfl) p_30))) (fun o V' hq => ?_)
          obtain ⟨G78, A79, st2_80, lg2_81, lb2_82, nw2_83, al2_84, fw2_85, rfl, rfl, hW86, hF87, hQ88, hQ89, hQ90, e91, e92, e93, e94, e95, e96, p97, p98, p99, p100, p101, p102, p103, p104, p105, p106, p107, p108, p109, p110, -⟩ := hq
          have hF112 := Fr_tr hF67 hF87 (Fr_sub (by decide)) (Fr_sub (by decide))
          have hC113 := Fx_tr hC69 hQ88 (by omega)
          have hAl114 := Fx_tr hAl70 hQ89 (by omega)
          have hBp115 := Fx_tr hBp71 hQ90 (by omega)
          have sf116 : PE 56 (La) (b6) (mn) A79 := PE_fx hQ90 rfl (by omega) (by omega) sf73
          have sf117 : PE 57 (fL T0 F nw n) (b6) (mn) A79 := PE_fx hQ90 rfl (by omega) (by omega) sf74
          have bst2_80 : (-2147483648 : Int) ≤ st2_80 ∧ st2_80 ≤ 2147483647 := e91 ▸ hW86.1 70
          have blg2_81 : (0 : Int) ≤ lg2_81 ∧ lg2_81 ≤ 1 := e92 ▸ hW86.1 79
          have blb2_82 : (-2147483648 : Int) ≤ lb2_82 ∧ lb2_82 ≤ 2147483647 := e93 ▸ hW86.1 77
          have bnw2_83 : (-2147483648 : Int) ≤ nw2_83 ∧ nw2_83 ≤ 2147483647 := e94 ▸ hW86.1 81
          have bal2_84 : (-2147483648 : Int) ≤ al2_84 ∧ al2_84 ≤ 2147483647 := e95 ▸ hW86.1 89
          have bfw2_85 : (-2147483648 : Int) ≤ fw2_85 ∧ fw2_85 ≤ 2147483647 := e96 ▸ hW86.2 51 _
          refine .inl ⟨rfl, ?_⟩
          have sf118 : Cd (lg2_81 = 0 ∧ lb2_82 < 19999) (gP2 T0 A79 Q k (La) F Sn nw (n) ((i).toNat) (le) (st) (st1) (lb + 1) (lb1)) := Cd_mk (fun hC => gP2_mv (Cg_fx (l0 := lb + 1) (l1 := lb1) hQ88 (Cd_ap p104 (by omega)) (by omega)) (by omega) (Cd_ap sf75 (by omega)))
          have sf119 : Cd (lg2_81 = 0 ∧ lb2_82 < 19999) (LZ A79 (La i) (st1) (lb + 1) (lb1)) := Cd_mk (fun hC => LZ_mv (Cg_fx (l0 := lb + 1) (l1 := lb1) hQ88 (Cd_ap p104 (by omega)) (by omega)) (by omega) (Cd_ap sf76 (by omega)))
          have hBo120 : Cd (lg2_81 = 0 ∧ lb2_82 < 19999) (Fx [50] (lb + 1) A A79) := Cd_mk (fun hC => Fx_tr (Cd_ap hBo60 (by omega)) (Cd_ap p104 (by omega)) (by omega))
          have hfl2 : A79 57 (b6 + i).toNat = F nw - dpt T0 n (i).toNat - T0 26 (kid T0 n (i).toNat).toNat := sf117 i (by omega) (by omega)
          refine jx_ld (pc' := 400) (l' := L) (st' := [.ref 66]) rfl (jl_aloadn gL_0) ?_
          refine jx_ar (pc' := 401) (st' := [.int (i32 (1)), .ref 66]) rfl rfl rfl rfl ?_
          refine jx_ld (pc' := 402) (l' := L) (st' := [.int (i32 (w)), .int (i32 (1)), .ref 66]) rfl (jl_iloadn gL_3) ?_
          refine jx_ld (pc' := 404) (l' := L) (st' := [.int (i32 (f9)), .int (i32 (w)), .int (i32 (1)), .ref 66]) rfl (jl_iload gL_9) ?_
          refine jx_add (pc' := 405) rfl rfl ?_
          refine jx_ld (pc' := 406) (l' := L) (st' := [.ref 66, .int (i32 ((w + f9))), .int (i32 (1)), .ref 66]) rfl (jl_aloadn gL_0) ?_
          refine jr_get (pc' := 409) (i := 87) (v := .ref 124) rfl rfl (by decide) rfl rfl ?_
          refine jx_ld (pc' := 411) (l' := L) (st' := [.int (i32 (b6)), .ref 124, .int (i32 ((w + f9))), .int (i32 (1)), .ref 66]) rfl (jl_iload gL_6) ?_
          refine jx_ld (pc' := 413) (l' := L) (st' := [.int (i32 (i)), .int (i32 (b6)), .ref 124, .int (i32 ((w + f9))), .int (i32 (1)), .ref 66]) rfl (jl_iload gL_10) ?_
          refine jx_add (pc' := 414) rfl rfl ?_
          have b121 : (-2147483648 : Int) ≤ A79 57 ((b6 + i)).toNat ∧ A79 57 ((b6 + i)).toNat ≤ 2147483647 := hW86.2 57 _
          refine jr_ldv (pc' := 415) (i := 57) (m := 320) (z := (b6 + i)) (y := A79 57 ((b6 + i)).toNat) rfl (by decide) rfl (by decide) (by omega) (by omega) rfl (show A79 57 ((b6 + i)).toNat = A79 57 ((b6 + i)).toNat from rfl) ?_
          refine jx_sub (pc' := 416) rfl rfl ?_
          refine jx_vr (pc' := 419) (as := [.int (i32 (1)), .int (i32 (((w + f9) - A79 57 ((b6 + i)).toNat)))]) (st := []) rfl rfl rfl rfl ⟨rfl, rfl, Nat.le_of_ble_eq_true rfl⟩ rfl rfl (c_emit (dd := d) (hd := by omega) (hW := hW86) (fn := 1) (v := ((w + f9) - A79 57 ((b6 + i)).toNat)) (st := st2_80) (e_st := show G78 70 = st2_80 from (e91)) (lg := lg2_81) (e_lg := show G78 79 = lg2_81 from (e92))  (h_fn := ⟨(by decide), (by decide)⟩) (h_v := ⟨(by omega), (by omega)⟩)  (p_0 := by omega) (p_1 := by omega)) (fun o V' hq => ?_)
          obtain ⟨G122, A123, st2_124, lg2_125, rfl, rfl, hW126, hF127, hQ128, e129, e130, p131, p132, p133, p134, p135, p136, -⟩ := hq
          have hF138 := Fr_tr hF112 hF127 (Fr_sub (by decide)) (Fr_sub (by decide))
          have hC139 := Fx_tr hC113 hQ128 (by omega)
          have hAl140 := Fx_f hAl114 hF127 (by decide)
          have hBp141 := Fx_f hBp115 hF127 (by decide)
          have sf142 : PE 56 (La) (b6) (mn) A123 := PE_fr (hF127.2 56 rfl) sf116
          have sf143 : PE 57 (fL T0 F nw n) (b6) (mn) A123 := PE_fr (hF127.2 57 rfl) sf117
          have sf144 := FA_fr (hF127.2 51 rfl) p108
          have sf145 := SA_fr (hF127.2 13 rfl) p109
          have bst2_124 : (-2147483648 : Int) ≤ st2_124 ∧ st2_124 ≤ 2147483647 := e129 ▸ hW126.1 70
          have blg2_125 : (0 : Int) ≤ lg2_125 ∧ lg2_125 ≤ 1 := e130 ▸ hW126.1 79
          refine .inl ⟨rfl, ?_⟩
          have sf146 : Cd (lg2_125 = 0 ∧ lb2_82 < 19999) (gP2 T0 A123 Q k (La) F Sn nw (n) ((i).toNat) (le) (st) (st1) (lb + 1) (lb1)) := Cd_mk (fun hC => gP2_mv (Cg_fx (l0 := lb + 1) (l1 := lb1) hQ128 (Fx_f (w := lb1 + 1) Fx_rf hF127 (by decide)) (by omega)) (by omega) (Cd_ap sf118 (by omega)))
          have sf147 : Cd (lg2_125 = 0 ∧ lb2_82 < 19999) (LZ A123 (La i) (st1) (lb + 1) (lb1)) := Cd_mk (fun hC => LZ_mv (Cg_fx (l0 := lb + 1) (l1 := lb1) hQ128 (Fx_f (w := lb1 + 1) Fx_rf hF127 (by decide)) (by omega)) (by omega) (Cd_ap sf119 (by omega)))
          have sf148 : Cd (lg2_125 = 0 ∧ lb2_82 < 19999) (gP T0 A123 Q (k) (fB T0 F nw n (i).toNat) (sB T0 Sn n (i).toNat) (nw + 1) (c) (st1) (st2_80) (lb1) (lb2_82)) := Cd_mk (fun hC => gP_mv (Cg_fx (l0 := lb1) (l1 := lb2_82) hQ128 (Fx_f (w := lb2_82 + 1) Fx_rf hF127 (by decide)) (by omega)) (by omega) (Cd_ap p110 (by omega)))
          have hBo149 : Cd (lg2_125 = 0 ∧ lb2_82 < 19999) (Fx [50] (lb + 1) A A123) := Cd_mk (fun hC => Fx_f (Cd_ap hBo120 (by omega)) hF127 (by decide))
          refine jx_ld (pc' := 420) (l' := L) (st' := [.ref 66]) rfl (jl_aloadn gL_0) ?_
          refine jx_ar (pc' := 422) (st' := [.int (i32 (17)), .ref 66]) rfl rfl rfl rfl ?_
          refine jx_vr (pc' := 425) (as := [.int (i32 (17))]) (st := []) rfl rfl rfl rfl ⟨rfl, rfl, Nat.le_of_ble_eq_true rfl⟩ rfl rfl (c_op (dd := d) (hd := by omega) (hW := hW126) (oo := 17) (st := st2_124) (e_st := show G122 70 = st2_124 from (e129)) (lg := lg2_125) (e_lg := show G122 79 = lg2_125 from (e130))  (h_oo := ⟨(by decide), (by decide)⟩)  (p_0 := by omega) (p_1 := by omega)) (fun o V' hq => ?_)
          obtain ⟨G150, A151, st2_152, lg2_153, rfl, rfl, hW154, hF155, hQ156, e157, e158, p159, p160, p161, p162, p163, p164, -⟩ := hq
          have hF166 := Fr_tr hF138 hF155 (Fr_sub (by decide)) (Fr_sub (by decide))
          have hC167 := Fx_tr hC139 hQ156 (by omega)
          have hAl168 := Fx_f hAl140 hF155 (by decide)
          have hBp169 := Fx_f hBp141 hF155 (by decide)
          have sf170 : PE 56 (La) (b6) (mn) A151 := PE_fr (hF155.2 56 rfl) sf142
          have sf171 : PE 57 (fL T0 F nw n) (b6) (mn) A151 := PE_fr (hF155.2 57 rfl) sf143
          have sf172 := FA_fr (hF155.2 51 rfl) sf144
          have sf173 := SA_fr (hF155.2 13 rfl) sf145
          have bst2_152 : (-2147483648 : Int) ≤ st2_152 ∧ st2_152 ≤ 2147483647 := e157 ▸ hW154.1 70
          have blg2_153 : (0 : Int) ≤ lg2_153 ∧ lg2_153 ≤ 1 := e158 ▸ hW154.1 79
          refine .inl ⟨rfl, ?_⟩
          have sf174 : Cd (lg2_153 = 0 ∧ lb2_82 < 19999) (gP2 T0 A151 Q k (La) F Sn nw (n) ((i).toNat) (le) (st) (st1) (lb + 1) (lb1)) := Cd_mk (fun hC => gP2_mv (Cg_fx (l0 := lb + 1) (l1 := lb1) hQ156 (Fx_f (w := lb1 + 1) Fx_rf hF155 (by decide)) (by omega)) (by omega) (Cd_ap sf146 (by omega)))
          have sf175 : Cd (lg2_153 = 0 ∧ lb2_82 < 19999) (LZ A151 (La i) (st1) (lb + 1) (lb1)) := Cd_mk (fun hC => LZ_mv (Cg_fx (l0 := lb + 1) (l1 := lb1) hQ156 (Fx_f (w := lb1 + 1) Fx_rf hF155 (by decide)) (by omega)) (by omega) (Cd_ap sf147 (by omega)))
          have sf176 : Cd (lg2_153 = 0 ∧ lb2_82 < 19999) (gP T0 A151 Q (k) (fB T0 F nw n (i).toNat) (sB T0 Sn n (i).toNat) (nw + 1) (c) (st1) (st2_80) (lb1) (lb2_82)) := Cd_mk (fun hC => gP_mv (Cg_fx (l0 := lb1) (l1 := lb2_82) hQ156 (Fx_f (w := lb2_82 + 1) Fx_rf hF155 (by decide)) (by omega)) (by omega) (Cd_ap sf148 (by omega)))
          have sf177 : Cd (lg2_153 = 0 ∧ lb2_82 < 19999) (ST A151 (st2_80) (st2_124) (1) ((w + f9) - A79 57 ((b6 + i)).toNat)) := Cd_mk (fun hC => ST_mv (Cg_fx (l0 := 0) (l1 := 0) hQ156 (Fx_f (w := 0 + 1) Fx_rf hF155 (by decide)) (by omega)) (by omega) (Cd_ap p136 (by omega)))
          have hBo178 : Cd (lg2_153 = 0 ∧ lb2_82 < 19999) (Fx [50] (lb + 1) A A151) := Cd_mk (fun hC => Fx_f (Cd_ap hBo149 (by omega)) hF155 (by decide))
          refine jx_ld (pc' := 426) (l' := L) (st' := [.ref 66]) rfl (jl_aloadn gL_0) ?_
          refine jx_ar (pc' := 427) (st' := [.ref 66, .ref 66]) rfl rfl rfl rfl ?_
          refine jr_get (pc' := 430) (i := 81) (v := .int (i32 (nw2_83))) rfl rfl (by decide) (rFv_eq (by decide) (show G150 81 = nw2_83 from ((hF155.1 81 rfl).trans ((hF127.1 81 rfl).trans (e94))))) rfl ?_
          refine jx_ar (pc' := 431) (st' := [.int (i32 (1)), .int (i32 (nw2_83)), .ref 66]) rfl rfl rfl rfl ?_
          refine jx_sub (pc' := 432) rfl rfl ?_
          refine jr_put (pc' := 435) (i := 81) (z := (nw2_83 - 1)) rfl rfl (by decide) rfl rfl rfl rfl rfl rfl ?_
          have hW179 : Wk (uG G150 81 ((nw2_83 - 1))) A151 := Wk_g hW154 (show (-2147483648 : Int) ≤ (nw2_83 - 1) by omega) (show (nw2_83 - 1) ≤ (2147483647 : Int) by omega)
          have hF180 := Fr_g (z := (nw2_83 - 1)) (i := 81) hF166 (by decide)
          have hFAd := FA_dn (F := F) (nw := nw) sf172 fB_l; have hSAd := SA_kdn (S := Sn) sf173 p_19 (fun q => by have := hk3 q; omega); have hfw5 : A151 51 (nw).toNat = fw := ((hFAd nw (by omega) (by omega)).1).trans hfw
          refine jx_ld (pc' := 436) (l' := L) (st' := [.int (i32 (0))]) rfl (jl_iloadn gL_2) ?_
          refine jx_if_eq (pc' := 439) (tg := 444) rfl rfl rfl (by decide) (by decide) (fun h181 => ?_) (fun h181 => ?_)
          · have _q := h181
            refine jx_ld (pc' := 445) (l' := L) (st' := [.ref 66]) rfl (jl_aloadn gL_0) ?_
            refine jr_get (pc' := 448) (i := 39) (v := .ref 89) rfl rfl (by decide) rfl rfl ?_
            refine jx_ld (pc' := 450) (l' := L) (st' := [.int (i32 (c)), .ref 89]) rfl (jl_iload gL_8) ?_
            have b182 : (-2147483648 : Int) ≤ T0 22 (c).toNat ∧ T0 22 (c).toNat ≤ 2147483647 := hWT.2 22 _
            refine jr_ldv (pc' := 451) (i := 22) (m := 7000) (z := c) (y := T0 22 (c).toNat) rfl (by decide) rfl (by decide) (by omega) (by omega) rfl (show A151 22 (c).toNat = T0 22 (c).toNat from (congrFun ((hF155.2 22 rfl).trans ((hF127.2 22 rfl).trans ((hF87.2 22 rfl).trans (((congrFun eA65 22).trans (uA_ne (by decide))).trans ((hF46.2 22 rfl).trans ((hFx.2 22 rfl).trans (p_0 22 rfl))))))) _)) ?_
            refine jx_ld (pc' := 453) (l' := jSto1 L 8 (.int (i32 (T0 22 (c).toNat)))) (st' := []) rfl rfl ?_
            obtain ⟨L183, eL183⟩ : ∃ q, q = jSto1 L 8 (.int (i32 (T0 22 (c).toNat))) := ⟨_, rfl⟩
            rw [← eL183]
            have gL183_0 : jGet L183 0 = some (.ref 66) := eL183 ▸ jg_ne (by decide) gL_0 rfl
            have gL183_1 : jGet L183 1 = some (.int (i32 (n))) := eL183 ▸ jg_ne (by decide) gL_1 rfl
            have gL183_2 : jGet L183 2 = some (.int (i32 (0))) := eL183 ▸ jg_ne (by decide) gL_2 rfl
            have gL183_3 : jGet L183 3 = some (.int (i32 (w))) := eL183 ▸ jg_ne (by decide) gL_3 rfl
            have gL183_4 : jGet L183 4 = some (.int (i32 (mn))) := eL183 ▸ jg_ne (by decide) gL_4 rfl
            have gL183_5 : jGet L183 5 = some (.int (i32 (le))) := eL183 ▸ jg_ne (by decide) gL_5 rfl
            have gL183_6 : jGet L183 6 = some (.int (i32 (b6))) := eL183 ▸ jg_ne (by decide) gL_6 rfl
            have gL183_9 : jGet L183 9 = some (.int (i32 (f9))) := eL183 ▸ jg_ne (by decide) gL_9 rfl
            have gL183_10 : jGet L183 10 = some (.int (i32 (i))) := eL183 ▸ jg_ne (by decide) gL_10 rfl
            have gL183_8 : jGet L183 8 = some (.int (i32 (T0 22 (c).toNat))) := eL183 ▸ jg_eq
            refine jx_inc (pc' := 456) (l' := jSto1 L183 10 (.int (i32 ((i + (1)))))) (x := i) rfl gL183_10 (by decide) rfl rfl ?_
            obtain ⟨L184, eL184⟩ : ∃ q, q = jSto1 L183 10 (.int (i32 ((i + (1))))) := ⟨_, rfl⟩
            rw [← eL184]
            have gL184_0 : jGet L184 0 = some (.ref 66) := eL184 ▸ jg_ne (by decide) gL183_0 rfl
            have gL184_1 : jGet L184 1 = some (.int (i32 (n))) := eL184 ▸ jg_ne (by decide) gL183_1 rfl
            have gL184_2 : jGet L184 2 = some (.int (i32 (0))) := eL184 ▸ jg_ne (by decide) gL183_2 rfl
            have gL184_3 : jGet L184 3 = some (.int (i32 (w))) := eL184 ▸ jg_ne (by decide) gL183_3 rfl
            have gL184_4 : jGet L184 4 = some (.int (i32 (mn))) := eL184 ▸ jg_ne (by decide) gL183_4 rfl
            have gL184_5 : jGet L184 5 = some (.int (i32 (le))) := eL184 ▸ jg_ne (by decide) gL183_5 rfl
            have gL184_6 : jGet L184 6 = some (.int (i32 (b6))) := eL184 ▸ jg_ne (by decide) gL183_6 rfl
            have gL184_9 : jGet L184 9 = some (.int (i32 (f9))) := eL184 ▸ jg_ne (by decide) gL183_9 rfl
            have gL184_8 : jGet L184 8 = some (.int (i32 (T0 22 (c).toNat))) := eL184 ▸ jg_ne (by decide) gL183_8 rfl
            have gL184_10 : jGet L184 10 = some (.int (i32 ((i + (1))))) := eL184 ▸ jg_eq
            refine jx_go (tg := 312) rfl rfl ?_
            exact ih312_0 _ (by omega) L184 (uG G150 81 ((nw2_83 - 1))) A151 (w) (mn) (le) (b6) (T0 22 (c).toNat) (f9) ((i + (1))) (st2_152) (lg2_153) (lb2_82) (fw) (La) rfl gL184_0 gL184_1 gL184_2 gL184_3 gL184_4 gL184_5 gL184_6 gL184_8 gL184_9 gL184_10 hW179 hF180 hC167 hAl168 hBp169 (Cd_mk (fun hC => Cd_ap hBo178 (by omega))) ((e157)) ((e158)) (((hF155.1 77 rfl).trans ((hF127.1 77 rfl).trans (e93)))) ((hfw5)) (Eq.trans (show (uG G150 81 ((nw2_83 - 1))) 81 = (nw2_83 - 1) from rfl) (by omega)) (Eq.trans (show (uG G150 81 ((nw2_83 - 1))) 89 = al2_84 from ((hF155.1 89 rfl).trans ((hF127.1 89 rfl).trans (e95)))) (by omega)) (by omega) (by omega) (by omega) (by omega) (by omega) (by omega) (by omega) (by omega) (by omega) (by omega) (by omega) (by omega) ((Cd_mk (fun hC => by have := Cd_ap iv_5 (by omega); have := Cd_ap p102 (by omega); omega))) (by omega) (by omega) (by omega) (by omega) (by omega) (by omega) (by omega) (by omega) (by omega) (by omega) (by omega) ((Cd_mk (fun hC => (by have hr := Cd_ap iv_17 (by omega); omega)))) (by omega) (hFAd) (hSAd) (sf170) (sf171) (iv_23) ((Cd_mk (fun hC => (gP2_nx (by omega) (by omega) (Cd_ap sf174 (by omega)) (by omega) (Cd_ap sf175 (by omega)).2.2.2 (gP_c iv_10 (Cd_ap sf176 (by omega))) (Cd_ap sf177 (by omega)) (Cd_ap p164 (by omega)) (by omega)))))
          · have _q := h181
            exact absurd h181 (by omega)
        · have _q := h61
          exact absurd h61 (by omega)
set_option maxRecDepth 20000 in
set_option maxHeartbeats 4000000 in
theorem c_genPar_at_312_1 {X : jX} {k : Nat} (hN : GN X k) {d : Nat} {T0 : Nat → Nat → Int} {Q F Sn : Int → Int} {Vs : Nat → Prop} {sb pb : Int} {c0 c1 : jC} {G : Nat → Int} {A : Nat → Nat → Int} {T : jH} {n : Int} {hi s0 s1 D bd : Int} {st lg lb nw al fw : Int} (hd : 2 * k + 63 ≤ d + 1) (hW : Wk G A) (e_st : G 70 = st) (e_lg : G 79 = lg) (e_lb : G 77 = lb) (e_nw : G 81 = nw) (e_al : G 89 = al) (e_fw : A 51 (nw).toNat = fw) (h_n : (-2147483648 : Int) ≤ n ∧ n ≤ 2147483647) (p_0 : TA T0 A) (p_1 : FA F (nw) A) (p_2 : SA T0 Vs Sn A) (p_3 : VW T0 Vs (nw)) (p_4 : 0 ≤ nw) (p_5 : nw + (k : Int) + 1 ≤ 38) (p_6 : 0 ≤ al) (p_7 : al + (k : Int) + 1 ≤ 38) (p_8 : 0 ≤ st) (p_9 : st ≤ 7000) (p_10 : 0 ≤ lb) (p_11 : lb + bd + 7000 - st ≤ 1900000000) (p_12 : hi ≤ 6999) (p_13 : sb ≤ 202) (p_14 : 0 ≤ n) (p_15 : n < hi) (p_16 : 0 ≤ s0) (p_17 : s1 ≤ sb) (p_18 : KD T0 sb pb k Vs (n) (hi) (s0) (s1) (nw) (D)) (p_19 : VB (Vs) (s0)) (p_20 : T0 15 (n).toNat = 28 ∨ T0 15 (n).toNat = 29) (p_21 : 0 ≤ T0 25 (n).toNat) (p_22 : T0 25 (n).toNat + 3 ≤ 4000) (p_23 : WB (n) (hi) (bd)) (p_24 : 0 ≤ D) (p_25 : D ≤ 4000) (p_26 : -4000 ≤ fw - D) (p_27 : fw ≤ 0) (p_28 : pb ≤ 24) (p_29 : PV T0 pb) (p_30 : PA Q pb A) : ∀ (m : Nat) (L : jL) (Gx : Nat → Int) (Ax : Nat → Nat → Int) (w mn le b6 c f9 i st1 lg1 lb1 fw1 : Int) (La : Int → Int), (mn - i).toNat = m → jGet L 0 = some (.ref 66) → jGet L 1 = some (.int (i32 (n))) → jGet L 2 = some (.int (i32 (1))) → jGet L 3 = some (.int (i32 w)) → jGet L 4 = some (.int (i32 mn)) → jGet L 5 = some (.int (i32 le)) → jGet L 6 = some (.int (i32 b6)) → jGet L 8 = some (.int (i32 c)) → jGet L 9 = some (.int (i32 f9)) → jGet L 10 = some (.int (i32 i)) → Wk Gx Ax → Fr [70, 77, 79, 81, 89] [13, 44, 45, 46, 47, 50, 51, 56, 57, 58] G A Gx Ax → Fx [44, 45, 46, 47] (st) A Ax → Fx [58] (8 * al) A Ax → Fx [56, 57] (8 * nw) A Ax → Cd (lg1 = 0 ∧ lb1 < 19999) (Fx [50] (lb + 1) A Ax) → Gx 70 = st1 → Gx 79 = lg1 → Gx 77 = lb1 → Ax 51 (nw).toNat = fw1 → Gx 81 = nw → Gx 89 = al → ((-2147483648 : Int) ≤ w ∧ w ≤ 2147483647) → ((-2147483648 : Int) ≤ mn ∧ mn ≤ 2147483647) → ((-2147483648 : Int) ≤ le ∧ le ≤ 2147483647) → ((-2147483648 : Int) ≤ b6 ∧ b6 ≤ 2147483647) → ((-2147483648 : Int) ≤ c ∧ c ≤ 2147483647) → ((-2147483648 : Int) ≤ f9 ∧ f9 ≤ 2147483647) → ((-2147483648 : Int) ≤ i ∧ i ≤ 2147483647) → (st ≤ st1) → (st1 ≤ 7000) → (lg ≤ lg1) → (lg1 ≤ 1) → (lb + 2 ≤ lb1) → (Cd (lg1 = 0) (lb1 - lb ≤ st1 - st)) → (lb1 - lb ≤ st1 - st + bd - 100000) → (w = T0 25 (n).toNat) → (mn = T0 20 (n).toNat) → (b6 = 8 * nw) → (c = kid T0 n (i).toNat) → (f9 = fw) → (0 ≤ i) → (i ≤ mn) → (fw1 = fw) → (1 ≤ le) → (le ≤ 19999) → (Cd (lb1 < 20000) (le = lb + 1)) → (T0 15 (n).toNat = 29) → (FA F (nw) Ax) → (SA T0 Vs Sn Ax) → (PE 56 (La) (b6) (mn) Ax) → (PE 57 (fL T0 F nw n) (b6) (mn) Ax) → (LBd (La) (mn)) → (Cd (lg1 = 0 ∧ lb1 < 19999) (gP2 T0 Ax Q k (La) F Sn nw (n) ((i).toNat) (le) (st) (st1) (lb + 1) (lb1))) → wj X d jm358 (312, L, [], rV c0 c1 Gx Ax T) (fun o V' => ∃ (G' : Nat → Int) (A' : Nat → Nat → Int) (st2 : Int) (lg2 : Int) (lb2 : Int) (nw2 : Int) (al2 : Int) (fw2 : Int), V' = rV c0 c1 G' A' T ∧ o = .inl none ∧ Wk G' A' ∧ Fr [70, 77, 79, 81, 89] [13, 44, 45, 46, 47, 50, 51, 56, 57, 58] G A G' A' ∧ Fx [44, 45, 46, 47] (st) A A' ∧ Fx [58] (8 * al) A A' ∧ Fx [56, 57] (8 * nw) A A' ∧ G' 70 = st2 ∧ G' 79 = lg2 ∧ G' 77 = lb2 ∧ G' 81 = nw2 ∧ G' 89 = al2 ∧ A' 51 (nw).toNat = fw2 ∧ (st ≤ st2) ∧ (st2 ≤ 7000) ∧ (lg ≤ lg2) ∧ (lg2 ≤ 1) ∧ (lb ≤ lb2) ∧ (Cd (lg2 = 0) (lb2 - lb ≤ st2 - st)) ∧ (lb2 - lb ≤ st2 - st + bd) ∧ (Cd (lg2 = 0 ∧ lb2 < 19999) (Fx [50] (lb + 1) A A')) ∧ (nw2 = nw) ∧ (al2 = al) ∧ (fw2 = fw) ∧ (FA F (nw) A') ∧ (SA T0 Vs Sn A') ∧ (Cd (lg2 = 0 ∧ lb2 < 19999) (gPa T0 A' (gP T0 A' Q k) F Sn nw (n) (st) (st2) (lb) (lb2))) ∧ True) := by
  have hF0 : Fr [70, 77, 79, 81, 89] [13, 44, 45, 46, 47, 50, 51, 56, 57, 58] G A G A := Fr_rf
  have hC0 : Fx [44, 45, 46, 47] (st) A A := Fx_rf
  have hAl0 : Fx [58] (8 * al) A A := Fx_rf
  have hBp0 : Fx [56, 57] (8 * nw) A A := Fx_rf
  have b_st : (-2147483648 : Int) ≤ st ∧ st ≤ 2147483647 := e_st ▸ hW.1 70
  have b_lg : (0 : Int) ≤ lg ∧ lg ≤ 1 := e_lg ▸ hW.1 79
  have b_lb : (-2147483648 : Int) ≤ lb ∧ lb ≤ 2147483647 := e_lb ▸ hW.1 77
  have b_nw : (-2147483648 : Int) ≤ nw ∧ nw ≤ 2147483647 := e_nw ▸ hW.1 81
  have b_al : (-2147483648 : Int) ≤ al ∧ al ≤ 2147483647 := e_al ▸ hW.1 89
  have b_fw : (-2147483648 : Int) ≤ fw ∧ fw ≤ 2147483647 := e_fw ▸ hW.2 51 _
  have hWT := TA_w hW p_0
  have hBo0 : Cd (lg = 0 ∧ lb < 19999) (Fx [50] (lb + 1) A A) := Cd_mk (fun _ => Fx_rf)
  have hfw := FA_at p_1 p_4 e_fw
  obtain ⟨hk1, hk2, hk3, hk4⟩ := p_18
  have hbp := WB_p p_23 (by omega) (by omega) (by omega)
  intro m
  induction m using Nat.strongRecOn with
  | ind m ih312_1 =>
    intro L Gx Ax w mn le b6 c f9 i st1 lg1 lb1 fw1 La hm gL_0 gL_1 gL_2 gL_3 gL_4 gL_5 gL_6 gL_8 gL_9 gL_10 hWx hFx hCx hAlx hBpx hBox ex_st1 ex_lg1 ex_lb1 ex_fw1 fx_81 fx_89 rx_w rx_mn rx_le rx_b6 rx_c rx_f9 rx_i iv_0 iv_1 iv_2 iv_3 iv_4 iv_5 iv_6 iv_7 iv_8 iv_9 iv_10 iv_11 iv_12 iv_13 iv_14 iv_15 iv_16 iv_17 iv_18 iv_19 iv_20 iv_21 iv_22 iv_23 iv_24
    have b_st1 : (-2147483648 : Int) ≤ st1 ∧ st1 ≤ 2147483647 := ex_st1 ▸ hWx.1 70
    have b_lg1 : (0 : Int) ≤ lg1 ∧ lg1 ≤ 1 := ex_lg1 ▸ hWx.1 79
    have b_lb1 : (-2147483648 : Int) ≤ lb1 ∧ lb1 ≤ 2147483647 := ex_lb1 ▸ hWx.1 77
    have hmy : mny T0 n = T0 20 (n).toNat := if_pos (by omega)
    refine jx_ld (pc' := 314) (l' := L) (st' := [.int (i32 (i))]) rfl (jl_iload gL_10) ?_
    refine jx_ld (pc' := 316) (l' := L) (st' := [.int (i32 (mn)), .int (i32 (i))]) rfl (jl_iload gL_4) ?_
    refine jx_icmp_ge (pc' := 319) (tg := 459) rfl rfl rfl (Int.le_trans (by decide : (-2147483648 : Int) ≤ -2147483648) rx_i.1) (Int.le_trans rx_i.2 (by decide : (2147483647 : Int) ≤ 2147483647)) (Int.le_trans (by decide : (-2147483648 : Int) ≤ -2147483648) rx_mn.1) (Int.le_trans rx_mn.2 (by decide : (2147483647 : Int) ≤ 2147483647)) (fun h185 => ?_) (fun h185 => ?_)
    · have _q := h185
      refine jx_ld (pc' := 460) (l' := L) (st' := [.ref 66]) rfl (jl_aloadn gL_0) ?_
      refine jx_ld (pc' := 462) (l' := L) (st' := [.int (i32 (le)), .ref 66]) rfl (jl_iload gL_5) ?_
      refine jx_vr (pc' := 465) (as := [.int (i32 (le))]) (st := []) rfl rfl rfl rfl ⟨rfl, rfl, Nat.le_of_ble_eq_true rfl⟩ rfl rfl (c_set (dd := d) (hd := by omega) (hW := hWx) (l := le) (st := st1) (e_st := show Gx 70 = st1 from (ex_st1))  (h_l := ⟨(Int.le_trans (by decide : (-2147483648 : Int) ≤ -2147483648) rx_le.1), (Int.le_trans rx_le.2 (by decide : (2147483647 : Int) ≤ 2147483647))⟩)  (p_0 := by omega) (p_1 := by omega)) (fun o V' hq => ?_)
      obtain ⟨G186, A187, ls2_188, rfl, rfl, hW189, hF190, e191, p192, q193⟩ := hq
      have hF194 := Fr_tr hFx hF190 (Fr_sub (by decide)) (Fr_sub (by decide))
      have hC195 := Fx_f hCx hF190 (by decide)
      have hAl196 := Fx_f hAlx hF190 (by decide)
      have hBp197 := Fx_f hBpx hF190 (by decide)
      have bls2_188 : (-2147483648 : Int) ≤ ls2_188 ∧ ls2_188 ≤ 2147483647 := e191 ▸ hW189.2 50 _
      refine .inl ⟨rfl, ?_⟩
      have a198 := q193
      have sf199 := FA_fr ((congrFun a198 51).trans (uA_ne (by decide))) iv_19
      have sf200 := SA_fr ((congrFun a198 13).trans (uA_ne (by decide))) iv_20
      have sf201 : PE 56 (La) (b6) (mn) A187 := PE_fr ((congrFun a198 56).trans (uA_ne (by decide))) iv_21
      have sf202 : PE 57 (fL T0 F nw n) (b6) (mn) A187 := PE_fr ((congrFun a198 57).trans (uA_ne (by decide))) iv_22
      have sf203 : Cd (lg1 = 0 ∧ lb1 < 19999) (gP2 T0 A187 Q k (La) F Sn nw (n) ((i).toNat) (le) (st) (st1) (lb + 1) (lb1)) := Cd_mk (fun hC => gP2_mv (Cg_set (K := st1) a198 (by omega) (by have hr := Cd_ap iv_17 (by omega); omega)) (Int.le_refl _) (Cd_ap iv_24 (by omega)))
      have hBo204 : Cd (lg1 = 0 ∧ lb1 < 19999) (Fx [50] (lb + 1) A A187) := Cd_mk (fun hC => Fx_u a198 (Cd_ap hBox (by omega)) (by omega) (by have hr := Cd_ap iv_17 (by omega); omega))
      refine jx_rt (v := none) rfl rfl rfl rfl rfl rfl ?_
      exact ⟨_, _, st1, lg1, lb1, nw, al, fw1, rfl, rfl, hW189, hF194, hC195, hAl196, hBp197, ((hF190.1 70 rfl).trans (ex_st1)), ((hF190.1 79 rfl).trans (ex_lg1)), ((hF190.1 77 rfl).trans (ex_lb1)), ((hF190.1 81 rfl).trans (fx_81)), ((hF190.1 89 rfl).trans (fx_89)), (congrFun (hF190.2 51 rfl) _).trans (ex_fw1), by omega, by omega, by omega, by omega, by omega, (Cd_mk (fun hC => by have := Cd_ap iv_5 (by omega); omega)), by omega, (Cd_mk (fun hC => Cd_ap hBo204 (by omega))), by omega, by omega, by omega, sf199, sf200, (Cd_mk (fun hC => (gPa_mk (m1 := lb + 1) (by omega) (Cd_ap sf203 (by omega)) (by omega) (LZ_mk (l0 := lb) (l1 := lb + 1) (by omega) (by have hr := Cd_ap iv_17 (by omega); omega) (by have hr := Cd_ap iv_17 (by omega); omega) ((show A187 50 (le).toNat = ls2_188 from (e191)).trans (by omega)))))), trivial⟩
    · have _q := h185
      have _q : True := trivial
      refine jx_ld (pc' := 320) (l' := L) (st' := [.ref 66]) rfl (jl_aloadn gL_0) ?_
      refine jr_get (pc' := 323) (i := 79) (v := .int (i32 (lg1))) rfl rfl (by decide) (rFv_eq (by decide) (show Gx 79 = lg1 from (ex_lg1))) rfl ?_
      refine jx_if_ne (pc' := 326) (tg := 459) rfl rfl rfl (Int.le_trans (by decide : (-2147483648 : Int) ≤ 0) b_lg1.1) (Int.le_trans b_lg1.2 (by decide : (1 : Int) ≤ 2147483647)) (fun h205 => ?_) (fun h205 => ?_)
      · have _q := h205
        refine jx_ld (pc' := 460) (l' := L) (st' := [.ref 66]) rfl (jl_aloadn gL_0) ?_
        refine jx_ld (pc' := 462) (l' := L) (st' := [.int (i32 (le)), .ref 66]) rfl (jl_iload gL_5) ?_
        refine jx_vr (pc' := 465) (as := [.int (i32 (le))]) (st := []) rfl rfl rfl rfl ⟨rfl, rfl, Nat.le_of_ble_eq_true rfl⟩ rfl rfl (c_set (dd := d) (hd := by omega) (hW := hWx) (l := le) (st := st1) (e_st := show Gx 70 = st1 from (ex_st1))  (h_l := ⟨(Int.le_trans (by decide : (-2147483648 : Int) ≤ -2147483648) rx_le.1), (Int.le_trans rx_le.2 (by decide : (2147483647 : Int) ≤ 2147483647))⟩)  (p_0 := by omega) (p_1 := by omega)) (fun o V' hq => ?_)
        obtain ⟨G206, A207, ls2_208, rfl, rfl, hW209, hF210, e211, p212, q213⟩ := hq
        have hF214 := Fr_tr hFx hF210 (Fr_sub (by decide)) (Fr_sub (by decide))
        have hC215 := Fx_f hCx hF210 (by decide)
        have hAl216 := Fx_f hAlx hF210 (by decide)
        have hBp217 := Fx_f hBpx hF210 (by decide)
        have bls2_208 : (-2147483648 : Int) ≤ ls2_208 ∧ ls2_208 ≤ 2147483647 := e211 ▸ hW209.2 50 _
        refine .inl ⟨rfl, ?_⟩
        have a218 := q213
        have sf219 := FA_fr ((congrFun a218 51).trans (uA_ne (by decide))) iv_19
        have sf220 := SA_fr ((congrFun a218 13).trans (uA_ne (by decide))) iv_20
        have sf221 : PE 56 (La) (b6) (mn) A207 := PE_fr ((congrFun a218 56).trans (uA_ne (by decide))) iv_21
        have sf222 : PE 57 (fL T0 F nw n) (b6) (mn) A207 := PE_fr ((congrFun a218 57).trans (uA_ne (by decide))) iv_22
        have sf223 : Cd (lg1 = 0 ∧ lb1 < 19999) (gP2 T0 A207 Q k (La) F Sn nw (n) ((i).toNat) (le) (st) (st1) (lb + 1) (lb1)) := Cd_mk (fun hC => gP2_mv (Cg_set (K := st1) a218 (by omega) (by have hr := Cd_ap iv_17 (by omega); omega)) (Int.le_refl _) (Cd_ap iv_24 (by omega)))
        have hBo224 : Cd (lg1 = 0 ∧ lb1 < 19999) (Fx [50] (lb + 1) A A207) := Cd_mk (fun hC => Fx_u a218 (Cd_ap hBox (by omega)) (by omega) (by have hr := Cd_ap iv_17 (by omega); omega))
        refine jx_rt (v := none) rfl rfl rfl rfl rfl rfl ?_
        exact ⟨_, _, st1, lg1, lb1, nw, al, fw1, rfl, rfl, hW209, hF214, hC215, hAl216, hBp217, ((hF210.1 70 rfl).trans (ex_st1)), ((hF210.1 79 rfl).trans (ex_lg1)), ((hF210.1 77 rfl).trans (ex_lb1)), ((hF210.1 81 rfl).trans (fx_81)), ((hF210.1 89 rfl).trans (fx_89)), (congrFun (hF210.2 51 rfl) _).trans (ex_fw1), by omega, by omega, by omega, by omega, by omega, (Cd_mk (fun hC => by have := Cd_ap iv_5 (by omega); omega)), by omega, (Cd_mk (fun hC => Cd_ap hBo224 (by omega))), by omega, by omega, by omega, sf219, sf220, (Cd_mk (fun hC => (absurd hC.1 (by omega)))), trivial⟩
      · have _q := h205
        obtain ⟨hj1, ⟨a8, b8, u8, v8, ha8, hb8, hu8, hu9, hv8, hw8⟩, hj3, hj4, hj5, hj6, hj7⟩ := hk4 (i).toNat (by omega); have hin8 := wP_in hw8; have hk26 : T0 26 (c).toNat = T0 26 (kid T0 n (i).toNat).toNat := (by rw [iv_10]); have hk27 : T0 27 (c).toNat = T0 27 (kid T0 n (i).toNat).toNat := (by rw [iv_10]); have hk22 : T0 22 (c).toNat = T0 22 (kid T0 n (i).toNat).toNat := (by rw [iv_10]); have hla : Ax 56 (b6 + i).toNat = La i := iv_21 i (by omega) (by omega); have hlb := iv_23 i (by omega) (by omega); have hfl : Ax 57 (b6 + i).toNat = F nw - dpt T0 n (i).toNat - T0 26 (kid T0 n (i).toNat).toNat := iv_22 i (by omega) (by omega); have hks := (kid_29 (j := (i + 1).toNat) iv_18).trans (kid_29 (j := (i).toNat) iv_18).symm
        refine jx_ld (pc' := 327) (l' := L) (st' := [.ref 66]) rfl (jl_aloadn gL_0) ?_
        refine jx_ld (pc' := 328) (l' := L) (st' := [.ref 66, .ref 66]) rfl (jl_aloadn gL_0) ?_
        refine jr_get (pc' := 331) (i := 86) (v := .ref 123) rfl rfl (by decide) rfl rfl ?_
        refine jx_ld (pc' := 333) (l' := L) (st' := [.int (i32 (b6)), .ref 123, .ref 66]) rfl (jl_iload gL_6) ?_
        refine jx_ld (pc' := 335) (l' := L) (st' := [.int (i32 (i)), .int (i32 (b6)), .ref 123, .ref 66]) rfl (jl_iload gL_10) ?_
        refine jx_add (pc' := 336) rfl rfl ?_
        have b225 : (-2147483648 : Int) ≤ Ax 56 ((b6 + i)).toNat ∧ Ax 56 ((b6 + i)).toNat ≤ 2147483647 := hWx.2 56 _
        refine jr_ldv (pc' := 337) (i := 56) (m := 320) (z := (b6 + i)) (y := Ax 56 ((b6 + i)).toNat) rfl (by decide) rfl (by decide) (by omega) (by omega) rfl (show Ax 56 ((b6 + i)).toNat = Ax 56 ((b6 + i)).toNat from rfl) ?_
        refine jx_vr (pc' := 340) (as := [.int (i32 (Ax 56 ((b6 + i)).toNat))]) (st := []) rfl rfl rfl rfl ⟨rfl, rfl, Nat.le_of_ble_eq_true rfl⟩ rfl rfl (c_set (dd := d) (hd := by omega) (hW := hWx) (l := Ax 56 ((b6 + i)).toNat) (st := st1) (e_st := show Gx 70 = st1 from (ex_st1))  (h_l := ⟨(Int.le_trans (by decide : (-2147483648 : Int) ≤ -2147483648) b225.1), (Int.le_trans b225.2 (by decide : (2147483647 : Int) ≤ 2147483647))⟩)  (p_0 := by omega) (p_1 := by omega)) (fun o V' hq => ?_)
        obtain ⟨G226, A227, ls2_228, rfl, rfl, hW229, hF230, e231, p232, q233⟩ := hq
        have hF234 := Fr_tr hFx hF230 (Fr_sub (by decide)) (Fr_sub (by decide))
        have hC235 := Fx_f hCx hF230 (by decide)
        have hAl236 := Fx_f hAlx hF230 (by decide)
        have hBp237 := Fx_f hBpx hF230 (by decide)
        have bls2_228 : (-2147483648 : Int) ≤ ls2_228 ∧ ls2_228 ≤ 2147483647 := e231 ▸ hW229.2 50 _
        refine .inl ⟨rfl, ?_⟩
        have a238 := q233
        have sf239 := FA_fr ((congrFun a238 51).trans (uA_ne (by decide))) iv_19
        have sf240 := SA_fr ((congrFun a238 13).trans (uA_ne (by decide))) iv_20
        have sf241 : PE 56 (La) (b6) (mn) A227 := PE_fr ((congrFun a238 56).trans (uA_ne (by decide))) iv_21
        have sf242 : PE 57 (fL T0 F nw n) (b6) (mn) A227 := PE_fr ((congrFun a238 57).trans (uA_ne (by decide))) iv_22
        have sf243 : Cd (lg1 = 0 ∧ lb1 < 19999) (gP2 T0 A227 Q k (La) F Sn nw (n) ((i).toNat) (le) (st) (st1) (lb + 1) (lb1)) := Cd_mk (fun hC => gP2_set a238 hla (by omega) (by omega) (Cd_ap iv_24 (by omega)))
        have hBo244 : Cd (lg1 = 0 ∧ lb1 < 19999) (Fx [50] (lb + 1) A A227) := Cd_mk (fun hC => Fx_u a238 (Cd_ap hBox (by omega)) (by omega) (by omega))
        have hlsi : Cd (lg1 = 0 ∧ lb1 < 19999) (LZ A227 (La i) (st1) (lb + 1) (lb1)) := Cd_mk (fun hC => LZ_mk2 hla (by omega) (gP2_La (Cd_ap sf243 (by omega)) (by omega) (by omega)) ((show A227 50 (Ax 56 ((b6 + i)).toNat).toNat = ls2_228 from (e231)).trans (by omega)))
        refine jx_ld (pc' := 341) (l' := L) (st' := [.int (i32 (1))]) rfl (jl_iloadn gL_2) ?_
        refine jx_if_eq (pc' := 344) (tg := 364) rfl rfl rfl (by decide) (by decide) (fun h245 => ?_) (fun h245 => ?_)
        · have _q := h245
          exact absurd h245 (by omega)
        · have _q := h245
          refine jx_ld (pc' := 345) (l' := L) (st' := [.ref 66]) rfl (jl_aloadn gL_0) ?_
          refine jr_get (pc' := 348) (i := 27) (v := .ref 80) rfl rfl (by decide) rfl rfl ?_
          refine jx_ld (pc' := 349) (l' := L) (st' := [.ref 66, .ref 80]) rfl (jl_aloadn gL_0) ?_
          refine jr_get (pc' := 352) (i := 34) (v := .ref 84) rfl rfl (by decide) rfl rfl ?_
          refine jx_ld (pc' := 353) (l' := L) (st' := [.int (i32 (n)), .ref 84, .ref 80]) rfl (jl_iloadn gL_1) ?_
          have b246 : (-2147483648 : Int) ≤ T0 17 (n).toNat ∧ T0 17 (n).toNat ≤ 2147483647 := hWT.2 17 _
          refine jr_ldv (pc' := 354) (i := 17) (m := 7000) (z := n) (y := T0 17 (n).toNat) rfl (by decide) rfl (by decide) (by omega) (by omega) rfl (show A227 17 (n).toNat = T0 17 (n).toNat from (congrFun ((hF230.2 17 rfl).trans ((hFx.2 17 rfl).trans (p_0 17 rfl))) _)) ?_
          refine jx_ld (pc' := 355) (l' := L) (st' := [.ref 66, .int (i32 (T0 17 (n).toNat)), .ref 80]) rfl (jl_aloadn gL_0) ?_
          refine jr_get (pc' := 358) (i := 36) (v := .ref 86) rfl rfl (by decide) rfl rfl ?_
          refine jx_ld (pc' := 359) (l' := L) (st' := [.int (i32 (n)), .ref 86, .int (i32 (T0 17 (n).toNat)), .ref 80]) rfl (jl_iloadn gL_1) ?_
          have b247 : (-2147483648 : Int) ≤ T0 19 (n).toNat ∧ T0 19 (n).toNat ≤ 2147483647 := hWT.2 19 _
          refine jr_ldv (pc' := 360) (i := 19) (m := 7000) (z := n) (y := T0 19 (n).toNat) rfl (by decide) rfl (by decide) (by omega) (by omega) rfl (show A227 19 (n).toNat = T0 19 (n).toNat from (congrFun ((hF230.2 19 rfl).trans ((hFx.2 19 rfl).trans (p_0 19 rfl))) _)) ?_
          refine jx_ld (pc' := 362) (l' := L) (st' := [.int (i32 (i)), .int (i32 (T0 19 (n).toNat)), .int (i32 (T0 17 (n).toNat)), .ref 80]) rfl (jl_iload gL_10) ?_
          refine jx_add (pc' := 363) rfl rfl ?_
          refine jr_st (pc' := 364) (i := 13) (m := 260) (z := T0 17 (n).toNat) (y := (T0 19 (n).toNat + i)) rfl (by decide) rfl (by decide) (by omega) (by omega) rfl ?_
          have hW249 : Wk G226 (uA A227 13 (T0 17 (n).toNat).toNat ((T0 19 (n).toNat + i))) := Wk_a hW229 (show (-2147483648 : Int) ≤ (T0 19 (n).toNat + i) by omega) (show (T0 19 (n).toNat + i) ≤ (2147483647 : Int) by omega)
          have hF250 := Fr_a (z := (T0 19 (n).toNat + i)) (k := 13) (n := (T0 17 (n).toNat).toNat) hF234 (by decide)
          obtain ⟨A248, eA248⟩ : ∃ q, q = uA A227 13 (T0 17 (n).toNat).toNat ((T0 19 (n).toNat + i)) := ⟨_, rfl⟩
          rw [← eA248]
          rw [← eA248] at hW249 hF250
          have q251 : A248 13 (T0 17 (n).toNat).toNat = (T0 19 (n).toNat + i) := by rw [eA248]; exact uA_eq
          have hC252 : Fx [44, 45, 46, 47] (st) A A248 := eA248 ▸ Fx_n hC235 rfl
          have hAl253 : Fx [58] (8 * al) A A248 := eA248 ▸ Fx_n hAl236 rfl
          have hBp254 : Fx [56, 57] (8 * nw) A A248 := eA248 ▸ Fx_n hBp237 rfl
          have sf255 := FA_fr ((congrFun eA248 51).trans (uA_ne (by decide))) sf239
          have sf256 : PE 56 (La) (b6) (mn) A248 := PE_fr ((congrFun eA248 56).trans (uA_ne (by decide))) sf241
          have sf257 : PE 57 (fL T0 F nw n) (b6) (mn) A248 := PE_fr ((congrFun eA248 57).trans (uA_ne (by decide))) sf242
          have sf258 : Cd (lg1 = 0 ∧ lb1 < 19999) (gP2 T0 A248 Q k (La) F Sn nw (n) ((i).toNat) (le) (st) (st1) (lb + 1) (lb1)) := Cd_mk (fun hC => gP2_mv (Cg_ne (K := st1) eA248 rfl) (Int.le_refl _) (Cd_ap sf243 (by omega)))
          have sf259 : Cd (lg1 = 0 ∧ lb1 < 19999) (LZ A248 (La i) (st1) (lb + 1) (lb1)) := Cd_mk (fun hC => LZ_mv (Cg_ne (K := st1) eA248 rfl) (Int.le_refl _) (Cd_ap hlsi (by omega)))
          have hSAk := SA_k29 (i := i) eA248 iv_18 rfl (by have := hk3 iv_18; omega) (by omega) rfl sf240
          refine jx_ld (pc' := 365) (l' := L) (st' := [.ref 66]) rfl (jl_aloadn gL_0) ?_
          refine jx_ar (pc' := 366) (st' := [.ref 66, .ref 66]) rfl rfl rfl rfl ?_
          refine jr_get (pc' := 369) (i := 81) (v := .int (i32 (nw))) rfl rfl (by decide) (rFv_eq (by decide) (show G226 81 = nw from ((hF230.1 81 rfl).trans (fx_81)))) rfl ?_
          refine jx_ar (pc' := 370) (st' := [.int (i32 (1)), .int (i32 (nw)), .ref 66]) rfl rfl rfl rfl ?_
          refine jx_add (pc' := 371) rfl rfl ?_
          refine jr_put (pc' := 374) (i := 81) (z := (nw + 1)) rfl rfl (by decide) rfl rfl rfl rfl rfl rfl ?_
          have hW260 : Wk (uG G226 81 ((nw + 1))) A248 := Wk_g hW249 (show (-2147483648 : Int) ≤ (nw + 1) by omega) (show (nw + 1) ≤ (2147483647 : Int) by omega)
          have hF261 := Fr_g (z := (nw + 1)) (i := 81) hF250 (by decide)
          refine jx_ld (pc' := 375) (l' := L) (st' := [.ref 66]) rfl (jl_aloadn gL_0) ?_
          refine jr_get (pc' := 378) (i := 80) (v := .ref 118) rfl rfl (by decide) rfl rfl ?_
          refine jx_ld (pc' := 379) (l' := L) (st' := [.ref 66, .ref 118]) rfl (jl_aloadn gL_0) ?_
          refine jr_get (pc' := 382) (i := 81) (v := .int (i32 ((nw + 1)))) rfl rfl (by decide) rfl rfl ?_
          refine jx_ld (pc' := 383) (l' := L) (st' := [.ref 66, .int (i32 ((nw + 1))), .ref 118]) rfl (jl_aloadn gL_0) ?_
          refine jr_get (pc' := 386) (i := 87) (v := .ref 124) rfl rfl (by decide) rfl rfl ?_
          refine jx_ld (pc' := 388) (l' := L) (st' := [.int (i32 (b6)), .ref 124, .int (i32 ((nw + 1))), .ref 118]) rfl (jl_iload gL_6) ?_
          refine jx_ld (pc' := 390) (l' := L) (st' := [.int (i32 (i)), .int (i32 (b6)), .ref 124, .int (i32 ((nw + 1))), .ref 118]) rfl (jl_iload gL_10) ?_
          refine jx_add (pc' := 391) rfl rfl ?_
          have _q : True := trivial
          have b262 : (-2147483648 : Int) ≤ Ax 57 ((b6 + i)).toNat ∧ Ax 57 ((b6 + i)).toNat ≤ 2147483647 := hWx.2 57 _
          refine jr_ldv (pc' := 392) (i := 57) (m := 320) (z := (b6 + i)) (y := Ax 57 ((b6 + i)).toNat) rfl (by decide) rfl (by decide) (by omega) (by omega) rfl (show A248 57 ((b6 + i)).toNat = Ax 57 ((b6 + i)).toNat from (congrFun (((congrFun eA248 57).trans (uA_ne (by decide))).trans (hF230.2 57 rfl)) _)) ?_
          have _q : True := trivial
          refine jr_st (pc' := 393) (i := 51) (m := 40) (z := (nw + 1)) (y := Ax 57 ((b6 + i)).toNat) rfl (by decide) rfl (by decide) (by omega) (by omega) rfl ?_
          have hW264 : Wk (uG G226 81 ((nw + 1))) (uA A248 51 ((nw + 1)).toNat (Ax 57 ((b6 + i)).toNat)) := Wk_a hW260 (show (-2147483648 : Int) ≤ Ax 57 ((b6 + i)).toNat by omega) (show Ax 57 ((b6 + i)).toNat ≤ (2147483647 : Int) by omega)
          have hF265 := Fr_a (z := Ax 57 ((b6 + i)).toNat) (k := 51) (n := ((nw + 1)).toNat) hF261 (by decide)
          obtain ⟨A263, eA263⟩ : ∃ q, q = uA A248 51 ((nw + 1)).toNat (Ax 57 ((b6 + i)).toNat) := ⟨_, rfl⟩
          rw [← eA263]
          rw [← eA263] at hW264 hF265
          have q266 : A263 51 ((nw + 1)).toNat = Ax 57 ((b6 + i)).toNat := by rw [eA263]; exact uA_eq
          have hC267 : Fx [44, 45, 46, 47] (st) A A263 := eA263 ▸ Fx_n hC252 rfl
          have hAl268 : Fx [58] (8 * al) A A263 := eA263 ▸ Fx_n hAl253 rfl
          have hBp269 : Fx [56, 57] (8 * nw) A A263 := eA263 ▸ Fx_n hBp254 rfl
          have sf270 : PE 56 (La) (b6) (mn) A263 := PE_fr ((congrFun eA263 56).trans (uA_ne (by decide))) sf256
          have sf271 : PE 57 (fL T0 F nw n) (b6) (mn) A263 := PE_fr ((congrFun eA263 57).trans (uA_ne (by decide))) sf257
          have sf272 : Cd (lg1 = 0 ∧ lb1 < 19999) (gP2 T0 A263 Q k (La) F Sn nw (n) ((i).toNat) (le) (st) (st1) (lb + 1) (lb1)) := Cd_mk (fun hC => gP2_mv (Cg_ne (K := st1) eA263 rfl) (Int.le_refl _) (Cd_ap sf258 (by omega)))
          have sf273 : Cd (lg1 = 0 ∧ lb1 < 19999) (LZ A263 (La i) (st1) (lb + 1) (lb1)) := Cd_mk (fun hC => LZ_mv (Cg_ne (K := st1) eA263 rfl) (Int.le_refl _) (Cd_ap sf259 (by omega)))
          have sf274 := SA_fr ((congrFun eA263 13).trans (uA_ne (by decide))) hSAk
          obtain ⟨b1, hb1⟩ : ∃ b, WB a8 b8 b := WB_ex _ _; have hbb := WB_in p_23 hb1 (by omega) (by omega) (by omega); have hFAk := FA_st (F := F) (F' := fB T0 F nw n (i).toNat) eA263 sf255 p_4 (by omega) fB_l (fB_n.trans (by omega)) (by omega) (by omega); have hVWk := VW_kd (n := n) p_3 (fun q => by rw [(hk3 q).1]; exact (hk3 q).2.2.2); have hVBk := VB_kd (T := T0) (n := n) (u := u8) p_19 (by omega) (fun q => ⟨(hk3 q).1, hu9 q⟩)
          refine jx_ld (pc' := 394) (l' := L) (st' := [.ref 66]) rfl (jl_aloadn gL_0) ?_
          refine jx_ld (pc' := 396) (l' := L) (st' := [.int (i32 (c)), .ref 66]) rfl (jl_iload gL_8) ?_
          refine jx_vr (pc' := 399) (as := [.int (i32 (c))]) (st := []) rfl rfl rfl rfl ⟨rfl, rfl, Nat.le_of_ble_eq_true rfl⟩ rfl rfl (hN (dd := d) (hd := by omega) (hW := hW264) (p := c) (lo := a8) (hi := b8) (s0 := u8) (s1 := v8) (fr := 1) (z := T0 26 (c).toNat) (D := T0 27 (c).toNat) (bd := b1) (st := st1) (e_st := show (uG G226 81 ((nw + 1))) 70 = st1 from ((hF230.1 70 rfl).trans (ex_st1))) (lg := lg1) (e_lg := show (uG G226 81 ((nw + 1))) 79 = lg1 from ((hF230.1 79 rfl).trans (ex_lg1))) (lb := lb1) (e_lb := show (uG G226 81 ((nw + 1))) 77 = lb1 from ((hF230.1 77 rfl).trans (ex_lb1))) (nw := (nw + 1)) (e_nw := show (uG G226 81 ((nw + 1))) 81 = (nw + 1) from rfl) (al := al) (e_al := show (uG G226 81 ((nw + 1))) 89 = al from ((hF230.1 89 rfl).trans (fx_89))) (fw := Ax 57 ((b6 + i)).toNat) (e_fw := show A263 51 ((nw + 1)).toNat = Ax 57 ((b6 + i)).toNat from (q266))  (h_p := ⟨(Int.le_trans (by decide : (-2147483648 : Int) ≤ -2147483648) rx_c.1), (Int.le_trans rx_c.2 (by decide : (2147483647 : Int) ≤ 2147483647))⟩)  (p_0 := (TA_fr hF265 (by decide) p_0)) (p_1 := hFAk) (p_2 := sf274) (p_3 := hVWk) (p_4 := by omega) (p_5 := by omega) (p_6 := by omega) (p_7 := by omega) (p_8 := by omega) (p_9 := by omega) (p_10 := by omega) (p_11 := by omega) (p_12 := by omega) (p_13 := by omega) (p_14 := by omega) (p_15 := by omega) (p_16 := by omega) (p_17 := (wP_c iv_10 hw8)) (p_18 := (VB_mo hVBk (by omega))) (p_19 := (lP_c iv_10 hj3)) (p_20 := hb1) (p_21 := by omega) (p_22 := by omega) (p_23 := by omega) (p_24 := by omega) (p_25 := by omega) (p_26 := by omega) (p_27 := by omega) (p_28 := p_29) (p_29 := (PA_fr (hF265.2 52 rfl) p_30))) (fun o V' hq => ?_)
          obtain ⟨G275, A276, st2_277, lg2_278, lb2_279, nw2_280, al2_281, fw2_282, rfl, rfl, hW283, hF284, hQ285, hQ286, hQ287, e288, e289, e290, e291, e292, e293, p294, p295, p296, p297, p298, p299, p300, p301, p302, p303, p304, p305, p306, p307, -⟩ := hq
          have hF309 := Fr_tr hF265 hF284 (Fr_sub (by decide)) (Fr_sub (by decide))
          have hC310 := Fx_tr hC267 hQ285 (by omega)
          have hAl311 := Fx_tr hAl268 hQ286 (by omega)
          have hBp312 := Fx_tr hBp269 hQ287 (by omega)
          have sf313 : PE 56 (La) (b6) (mn) A276 := PE_fx hQ287 rfl (by omega) (by omega) sf270
          have sf314 : PE 57 (fL T0 F nw n) (b6) (mn) A276 := PE_fx hQ287 rfl (by omega) (by omega) sf271
          have bst2_277 : (-2147483648 : Int) ≤ st2_277 ∧ st2_277 ≤ 2147483647 := e288 ▸ hW283.1 70
          have blg2_278 : (0 : Int) ≤ lg2_278 ∧ lg2_278 ≤ 1 := e289 ▸ hW283.1 79
          have blb2_279 : (-2147483648 : Int) ≤ lb2_279 ∧ lb2_279 ≤ 2147483647 := e290 ▸ hW283.1 77
          have bnw2_280 : (-2147483648 : Int) ≤ nw2_280 ∧ nw2_280 ≤ 2147483647 := e291 ▸ hW283.1 81
          have bal2_281 : (-2147483648 : Int) ≤ al2_281 ∧ al2_281 ≤ 2147483647 := e292 ▸ hW283.1 89
          have bfw2_282 : (-2147483648 : Int) ≤ fw2_282 ∧ fw2_282 ≤ 2147483647 := e293 ▸ hW283.2 51 _
          refine .inl ⟨rfl, ?_⟩
          have sf315 : Cd (lg2_278 = 0 ∧ lb2_279 < 19999) (gP2 T0 A276 Q k (La) F Sn nw (n) ((i).toNat) (le) (st) (st1) (lb + 1) (lb1)) := Cd_mk (fun hC => gP2_mv (Cg_fx (l0 := lb + 1) (l1 := lb1) hQ285 (Cd_ap p301 (by omega)) (by omega)) (by omega) (Cd_ap sf272 (by omega)))
          have sf316 : Cd (lg2_278 = 0 ∧ lb2_279 < 19999) (LZ A276 (La i) (st1) (lb + 1) (lb1)) := Cd_mk (fun hC => LZ_mv (Cg_fx (l0 := lb + 1) (l1 := lb1) hQ285 (Cd_ap p301 (by omega)) (by omega)) (by omega) (Cd_ap sf273 (by omega)))
          have hBo317 : Cd (lg2_278 = 0 ∧ lb2_279 < 19999) (Fx [50] (lb + 1) A A276) := Cd_mk (fun hC => Fx_tr (Cd_ap hBo244 (by omega)) (Cd_ap p301 (by omega)) (by omega))
          have hfl2 : A276 57 (b6 + i).toNat = F nw - dpt T0 n (i).toNat - T0 26 (kid T0 n (i).toNat).toNat := sf314 i (by omega) (by omega)
          refine jx_ld (pc' := 400) (l' := L) (st' := [.ref 66]) rfl (jl_aloadn gL_0) ?_
          refine jx_ar (pc' := 401) (st' := [.int (i32 (1)), .ref 66]) rfl rfl rfl rfl ?_
          refine jx_ld (pc' := 402) (l' := L) (st' := [.int (i32 (w)), .int (i32 (1)), .ref 66]) rfl (jl_iloadn gL_3) ?_
          refine jx_ld (pc' := 404) (l' := L) (st' := [.int (i32 (f9)), .int (i32 (w)), .int (i32 (1)), .ref 66]) rfl (jl_iload gL_9) ?_
          refine jx_add (pc' := 405) rfl rfl ?_
          refine jx_ld (pc' := 406) (l' := L) (st' := [.ref 66, .int (i32 ((w + f9))), .int (i32 (1)), .ref 66]) rfl (jl_aloadn gL_0) ?_
          refine jr_get (pc' := 409) (i := 87) (v := .ref 124) rfl rfl (by decide) rfl rfl ?_
          refine jx_ld (pc' := 411) (l' := L) (st' := [.int (i32 (b6)), .ref 124, .int (i32 ((w + f9))), .int (i32 (1)), .ref 66]) rfl (jl_iload gL_6) ?_
          refine jx_ld (pc' := 413) (l' := L) (st' := [.int (i32 (i)), .int (i32 (b6)), .ref 124, .int (i32 ((w + f9))), .int (i32 (1)), .ref 66]) rfl (jl_iload gL_10) ?_
          refine jx_add (pc' := 414) rfl rfl ?_
          have b318 : (-2147483648 : Int) ≤ A276 57 ((b6 + i)).toNat ∧ A276 57 ((b6 + i)).toNat ≤ 2147483647 := hW283.2 57 _
          refine jr_ldv (pc' := 415) (i := 57) (m := 320) (z := (b6 + i)) (y := A276 57 ((b6 + i)).toNat) rfl (by decide) rfl (by decide) (by omega) (by omega) rfl (show A276 57 ((b6 + i)).toNat = A276 57 ((b6 + i)).toNat from rfl) ?_
          refine jx_sub (pc' := 416) rfl rfl ?_
          refine jx_vr (pc' := 419) (as := [.int (i32 (1)), .int (i32 (((w + f9) - A276 57 ((b6 + i)).toNat)))]) (st := []) rfl rfl rfl rfl ⟨rfl, rfl, Nat.le_of_ble_eq_true rfl⟩ rfl rfl (c_emit (dd := d) (hd := by omega) (hW := hW283) (fn := 1) (v := ((w + f9) - A276 57 ((b6 + i)).toNat)) (st := st2_277) (e_st := show G275 70 = st2_277 from (e288)) (lg := lg2_278) (e_lg := show G275 79 = lg2_278 from (e289))  (h_fn := ⟨(by decide), (by decide)⟩) (h_v := ⟨(by omega), (by omega)⟩)  (p_0 := by omega) (p_1 := by omega)) (fun o V' hq => ?_)
          obtain ⟨G319, A320, st2_321, lg2_322, rfl, rfl, hW323, hF324, hQ325, e326, e327, p328, p329, p330, p331, p332, p333, -⟩ := hq
          have hF335 := Fr_tr hF309 hF324 (Fr_sub (by decide)) (Fr_sub (by decide))
          have hC336 := Fx_tr hC310 hQ325 (by omega)
          have hAl337 := Fx_f hAl311 hF324 (by decide)
          have hBp338 := Fx_f hBp312 hF324 (by decide)
          have sf339 : PE 56 (La) (b6) (mn) A320 := PE_fr (hF324.2 56 rfl) sf313
          have sf340 : PE 57 (fL T0 F nw n) (b6) (mn) A320 := PE_fr (hF324.2 57 rfl) sf314
          have sf341 := FA_fr (hF324.2 51 rfl) p305
          have sf342 := SA_fr (hF324.2 13 rfl) p306
          have bst2_321 : (-2147483648 : Int) ≤ st2_321 ∧ st2_321 ≤ 2147483647 := e326 ▸ hW323.1 70
          have blg2_322 : (0 : Int) ≤ lg2_322 ∧ lg2_322 ≤ 1 := e327 ▸ hW323.1 79
          refine .inl ⟨rfl, ?_⟩
          have sf343 : Cd (lg2_322 = 0 ∧ lb2_279 < 19999) (gP2 T0 A320 Q k (La) F Sn nw (n) ((i).toNat) (le) (st) (st1) (lb + 1) (lb1)) := Cd_mk (fun hC => gP2_mv (Cg_fx (l0 := lb + 1) (l1 := lb1) hQ325 (Fx_f (w := lb1 + 1) Fx_rf hF324 (by decide)) (by omega)) (by omega) (Cd_ap sf315 (by omega)))
          have sf344 : Cd (lg2_322 = 0 ∧ lb2_279 < 19999) (LZ A320 (La i) (st1) (lb + 1) (lb1)) := Cd_mk (fun hC => LZ_mv (Cg_fx (l0 := lb + 1) (l1 := lb1) hQ325 (Fx_f (w := lb1 + 1) Fx_rf hF324 (by decide)) (by omega)) (by omega) (Cd_ap sf316 (by omega)))
          have sf345 : Cd (lg2_322 = 0 ∧ lb2_279 < 19999) (gP T0 A320 Q (k) (fB T0 F nw n (i).toNat) (sB T0 Sn n (i).toNat) (nw + 1) (c) (st1) (st2_277) (lb1) (lb2_279)) := Cd_mk (fun hC => gP_mv (Cg_fx (l0 := lb1) (l1 := lb2_279) hQ325 (Fx_f (w := lb2_279 + 1) Fx_rf hF324 (by decide)) (by omega)) (by omega) (Cd_ap p307 (by omega)))
          have hBo346 : Cd (lg2_322 = 0 ∧ lb2_279 < 19999) (Fx [50] (lb + 1) A A320) := Cd_mk (fun hC => Fx_f (Cd_ap hBo317 (by omega)) hF324 (by decide))
          refine jx_ld (pc' := 420) (l' := L) (st' := [.ref 66]) rfl (jl_aloadn gL_0) ?_
          refine jx_ar (pc' := 422) (st' := [.int (i32 (17)), .ref 66]) rfl rfl rfl rfl ?_
          refine jx_vr (pc' := 425) (as := [.int (i32 (17))]) (st := []) rfl rfl rfl rfl ⟨rfl, rfl, Nat.le_of_ble_eq_true rfl⟩ rfl rfl (c_op (dd := d) (hd := by omega) (hW := hW323) (oo := 17) (st := st2_321) (e_st := show G319 70 = st2_321 from (e326)) (lg := lg2_322) (e_lg := show G319 79 = lg2_322 from (e327))  (h_oo := ⟨(by decide), (by decide)⟩)  (p_0 := by omega) (p_1 := by omega)) (fun o V' hq => ?_)
          obtain ⟨G347, A348, st2_349, lg2_350, rfl, rfl, hW351, hF352, hQ353, e354, e355, p356, p357, p358, p359, p360, p361, -⟩ := hq
          have hF363 := Fr_tr hF335 hF352 (Fr_sub (by decide)) (Fr_sub (by decide))
          have hC364 := Fx_tr hC336 hQ353 (by omega)
          have hAl365 := Fx_f hAl337 hF352 (by decide)
          have hBp366 := Fx_f hBp338 hF352 (by decide)
          have sf367 : PE 56 (La) (b6) (mn) A348 := PE_fr (hF352.2 56 rfl) sf339
          have sf368 : PE 57 (fL T0 F nw n) (b6) (mn) A348 := PE_fr (hF352.2 57 rfl) sf340
          have sf369 := FA_fr (hF352.2 51 rfl) sf341
          have sf370 := SA_fr (hF352.2 13 rfl) sf342
          have bst2_349 : (-2147483648 : Int) ≤ st2_349 ∧ st2_349 ≤ 2147483647 := e354 ▸ hW351.1 70
          have blg2_350 : (0 : Int) ≤ lg2_350 ∧ lg2_350 ≤ 1 := e355 ▸ hW351.1 79
          refine .inl ⟨rfl, ?_⟩
          have sf371 : Cd (lg2_350 = 0 ∧ lb2_279 < 19999) (gP2 T0 A348 Q k (La) F Sn nw (n) ((i).toNat) (le) (st) (st1) (lb + 1) (lb1)) := Cd_mk (fun hC => gP2_mv (Cg_fx (l0 := lb + 1) (l1 := lb1) hQ353 (Fx_f (w := lb1 + 1) Fx_rf hF352 (by decide)) (by omega)) (by omega) (Cd_ap sf343 (by omega)))
          have sf372 : Cd (lg2_350 = 0 ∧ lb2_279 < 19999) (LZ A348 (La i) (st1) (lb + 1) (lb1)) := Cd_mk (fun hC => LZ_mv (Cg_fx (l0 := lb + 1) (l1 := lb1) hQ353 (Fx_f (w := lb1 + 1) Fx_rf hF352 (by decide)) (by omega)) (by omega) (Cd_ap sf344 (by omega)))
          have sf373 : Cd (lg2_350 = 0 ∧ lb2_279 < 19999) (gP T0 A348 Q (k) (fB T0 F nw n (i).toNat) (sB T0 Sn n (i).toNat) (nw + 1) (c) (st1) (st2_277) (lb1) (lb2_279)) := Cd_mk (fun hC => gP_mv (Cg_fx (l0 := lb1) (l1 := lb2_279) hQ353 (Fx_f (w := lb2_279 + 1) Fx_rf hF352 (by decide)) (by omega)) (by omega) (Cd_ap sf345 (by omega)))
          have sf374 : Cd (lg2_350 = 0 ∧ lb2_279 < 19999) (ST A348 (st2_277) (st2_321) (1) ((w + f9) - A276 57 ((b6 + i)).toNat)) := Cd_mk (fun hC => ST_mv (Cg_fx (l0 := 0) (l1 := 0) hQ353 (Fx_f (w := 0 + 1) Fx_rf hF352 (by decide)) (by omega)) (by omega) (Cd_ap p333 (by omega)))
          have hBo375 : Cd (lg2_350 = 0 ∧ lb2_279 < 19999) (Fx [50] (lb + 1) A A348) := Cd_mk (fun hC => Fx_f (Cd_ap hBo346 (by omega)) hF352 (by decide))
          refine jx_ld (pc' := 426) (l' := L) (st' := [.ref 66]) rfl (jl_aloadn gL_0) ?_
          refine jx_ar (pc' := 427) (st' := [.ref 66, .ref 66]) rfl rfl rfl rfl ?_
          refine jr_get (pc' := 430) (i := 81) (v := .int (i32 (nw2_280))) rfl rfl (by decide) (rFv_eq (by decide) (show G347 81 = nw2_280 from ((hF352.1 81 rfl).trans ((hF324.1 81 rfl).trans (e291))))) rfl ?_
          refine jx_ar (pc' := 431) (st' := [.int (i32 (1)), .int (i32 (nw2_280)), .ref 66]) rfl rfl rfl rfl ?_
          refine jx_sub (pc' := 432) rfl rfl ?_
          refine jr_put (pc' := 435) (i := 81) (z := (nw2_280 - 1)) rfl rfl (by decide) rfl rfl rfl rfl rfl rfl ?_
          have hW376 : Wk (uG G347 81 ((nw2_280 - 1))) A348 := Wk_g hW351 (show (-2147483648 : Int) ≤ (nw2_280 - 1) by omega) (show (nw2_280 - 1) ≤ (2147483647 : Int) by omega)
          have hF377 := Fr_g (z := (nw2_280 - 1)) (i := 81) hF363 (by decide)
          have hFAd := FA_dn (F := F) (nw := nw) sf369 fB_l; have hSAd := SA_kdn (S := Sn) sf370 p_19 (fun q => by have := hk3 q; omega); have hfw5 : A348 51 (nw).toNat = fw := ((hFAd nw (by omega) (by omega)).1).trans hfw
          refine jx_ld (pc' := 436) (l' := L) (st' := [.int (i32 (1))]) rfl (jl_iloadn gL_2) ?_
          refine jx_if_eq (pc' := 439) (tg := 444) rfl rfl rfl (by decide) (by decide) (fun h378 => ?_) (fun h378 => ?_)
          · have _q := h378
            exact absurd h378 (by omega)
          · have _q := h378
            refine jx_ld (pc' := 441) (l' := L) (st' := [.int (i32 (c))]) rfl (jl_iload gL_8) ?_
            refine jx_go (tg := 451) rfl rfl ?_
            refine jx_ld (pc' := 453) (l' := jSto1 L 8 (.int (i32 (c)))) (st' := []) rfl rfl ?_
            obtain ⟨L379, eL379⟩ : ∃ q, q = jSto1 L 8 (.int (i32 (c))) := ⟨_, rfl⟩
            rw [← eL379]
            have gL379_0 : jGet L379 0 = some (.ref 66) := eL379 ▸ jg_ne (by decide) gL_0 rfl
            have gL379_1 : jGet L379 1 = some (.int (i32 (n))) := eL379 ▸ jg_ne (by decide) gL_1 rfl
            have gL379_2 : jGet L379 2 = some (.int (i32 (1))) := eL379 ▸ jg_ne (by decide) gL_2 rfl
            have gL379_3 : jGet L379 3 = some (.int (i32 (w))) := eL379 ▸ jg_ne (by decide) gL_3 rfl
            have gL379_4 : jGet L379 4 = some (.int (i32 (mn))) := eL379 ▸ jg_ne (by decide) gL_4 rfl
            have gL379_5 : jGet L379 5 = some (.int (i32 (le))) := eL379 ▸ jg_ne (by decide) gL_5 rfl
            have gL379_6 : jGet L379 6 = some (.int (i32 (b6))) := eL379 ▸ jg_ne (by decide) gL_6 rfl
            have gL379_9 : jGet L379 9 = some (.int (i32 (f9))) := eL379 ▸ jg_ne (by decide) gL_9 rfl
            have gL379_10 : jGet L379 10 = some (.int (i32 (i))) := eL379 ▸ jg_ne (by decide) gL_10 rfl
            have gL379_8 : jGet L379 8 = some (.int (i32 (c))) := eL379 ▸ jg_eq
            refine jx_inc (pc' := 456) (l' := jSto1 L379 10 (.int (i32 ((i + (1)))))) (x := i) rfl gL379_10 (by decide) rfl rfl ?_
            obtain ⟨L380, eL380⟩ : ∃ q, q = jSto1 L379 10 (.int (i32 ((i + (1))))) := ⟨_, rfl⟩
            rw [← eL380]
            have gL380_0 : jGet L380 0 = some (.ref 66) := eL380 ▸ jg_ne (by decide) gL379_0 rfl
            have gL380_1 : jGet L380 1 = some (.int (i32 (n))) := eL380 ▸ jg_ne (by decide) gL379_1 rfl
            have gL380_2 : jGet L380 2 = some (.int (i32 (1))) := eL380 ▸ jg_ne (by decide) gL379_2 rfl
            have gL380_3 : jGet L380 3 = some (.int (i32 (w))) := eL380 ▸ jg_ne (by decide) gL379_3 rfl
            have gL380_4 : jGet L380 4 = some (.int (i32 (mn))) := eL380 ▸ jg_ne (by decide) gL379_4 rfl
            have gL380_5 : jGet L380 5 = some (.int (i32 (le))) := eL380 ▸ jg_ne (by decide) gL379_5 rfl
            have gL380_6 : jGet L380 6 = some (.int (i32 (b6))) := eL380 ▸ jg_ne (by decide) gL379_6 rfl
            have gL380_9 : jGet L380 9 = some (.int (i32 (f9))) := eL380 ▸ jg_ne (by decide) gL379_9 rfl
            have gL380_8 : jGet L380 8 = some (.int (i32 (c))) := eL380 ▸ jg_ne (by decide) gL379_8 rfl
            have gL380_10 : jGet L380 10 = some (.int (i32 ((i + (1))))) := eL380 ▸ jg_eq
            refine jx_go (tg := 312) rfl rfl ?_
            exact ih312_1 _ (by omega) L380 (uG G347 81 ((nw2_280 - 1))) A348 (w) (mn) (le) (b6) (c) (f9) ((i + (1))) (st2_349) (lg2_350) (lb2_279) (fw) (La) rfl gL380_0 gL380_1 gL380_2 gL380_3 gL380_4 gL380_5 gL380_6 gL380_8 gL380_9 gL380_10 hW376 hF377 hC364 hAl365 hBp366 (Cd_mk (fun hC => Cd_ap hBo375 (by omega))) ((e354)) ((e355)) (((hF352.1 77 rfl).trans ((hF324.1 77 rfl).trans (e290)))) ((hfw5)) (Eq.trans (show (uG G347 81 ((nw2_280 - 1))) 81 = (nw2_280 - 1) from rfl) (by omega)) (Eq.trans (show (uG G347 81 ((nw2_280 - 1))) 89 = al2_281 from ((hF352.1 89 rfl).trans ((hF324.1 89 rfl).trans (e292)))) (by omega)) (by omega) (by omega) (by omega) (by omega) (by omega) (by omega) (by omega) (by omega) (by omega) (by omega) (by omega) (by omega) ((Cd_mk (fun hC => by have := Cd_ap iv_5 (by omega); have := Cd_ap p299 (by omega); omega))) (by omega) (by omega) (by omega) (by omega) (by omega) (by omega) (by omega) (by omega) (by omega) (by omega) (by omega) ((Cd_mk (fun hC => (by have hr := Cd_ap iv_17 (by omega); omega)))) (by omega) (hFAd) (hSAd) (sf367) (sf368) (iv_23) ((Cd_mk (fun hC => (gP2_nx (by omega) (by omega) (Cd_ap sf371 (by omega)) (by omega) (Cd_ap sf372 (by omega)).2.2.2 (gP_c iv_10 (Cd_ap sf373 (by omega))) (Cd_ap sf374 (by omega)) (Cd_ap p361 (by omega)) (by omega)))))
set_option maxRecDepth 20000 in
set_option maxHeartbeats 4000000 in
theorem c_genPar_at_118_0 {X : jX} {k : Nat} (hN : GN X k) {d : Nat} {T0 : Nat → Nat → Int} {Q F Sn : Int → Int} {Vs : Nat → Prop} {sb pb : Int} {c0 c1 : jC} {G : Nat → Int} {A : Nat → Nat → Int} {T : jH} {n : Int} {hi s0 s1 D bd : Int} {st lg lb nw al fw : Int} (hd : 2 * k + 63 ≤ d + 1) (hW : Wk G A) (e_st : G 70 = st) (e_lg : G 79 = lg) (e_lb : G 77 = lb) (e_nw : G 81 = nw) (e_al : G 89 = al) (e_fw : A 51 (nw).toNat = fw) (h_n : (-2147483648 : Int) ≤ n ∧ n ≤ 2147483647) (p_0 : TA T0 A) (p_1 : FA F (nw) A) (p_2 : SA T0 Vs Sn A) (p_3 : VW T0 Vs (nw)) (p_4 : 0 ≤ nw) (p_5 : nw + (k : Int) + 1 ≤ 38) (p_6 : 0 ≤ al) (p_7 : al + (k : Int) + 1 ≤ 38) (p_8 : 0 ≤ st) (p_9 : st ≤ 7000) (p_10 : 0 ≤ lb) (p_11 : lb + bd + 7000 - st ≤ 1900000000) (p_12 : hi ≤ 6999) (p_13 : sb ≤ 202) (p_14 : 0 ≤ n) (p_15 : n < hi) (p_16 : 0 ≤ s0) (p_17 : s1 ≤ sb) (p_18 : KD T0 sb pb k Vs (n) (hi) (s0) (s1) (nw) (D)) (p_19 : VB (Vs) (s0)) (p_20 : T0 15 (n).toNat = 28 ∨ T0 15 (n).toNat = 29) (p_21 : 0 ≤ T0 25 (n).toNat) (p_22 : T0 25 (n).toNat + 3 ≤ 4000) (p_23 : WB (n) (hi) (bd)) (p_24 : 0 ≤ D) (p_25 : D ≤ 4000) (p_26 : -4000 ≤ fw - D) (p_27 : fw ≤ 0) (p_28 : pb ≤ 24) (p_29 : PV T0 pb) (p_30 : PA Q pb A) : ∀ (m : Nat) (L : jL) (Gx : Nat → Int) (Ax : Nat → Nat → Int) (w mn le b6 dp c i st1 lg1 lb1 fw1 : Int) (La : Int → Int), (mn - i).toNat = m → jGet L 0 = some (.ref 66) → jGet L 1 = some (.int (i32 (n))) → jGet L 2 = some (.int (i32 (0))) → jGet L 3 = some (.int (i32 w)) → jGet L 4 = some (.int (i32 mn)) → jGet L 5 = some (.int (i32 le)) → jGet L 6 = some (.int (i32 b6)) → jGet L 7 = some (.int (i32 dp)) → jGet L 8 = some (.int (i32 c)) → jGet L 9 = some (.int (i32 i)) → Wk Gx Ax → Fr [70, 77, 79, 81, 89] [13, 44, 45, 46, 47, 50, 51, 56, 57, 58] G A Gx Ax → Fx [44, 45, 46, 47] (st) A Ax → Fx [58] (8 * al) A Ax → Fx [56, 57] (8 * nw) A Ax → Cd (lg1 = 0 ∧ lb1 < 19999) (Fx [50] (lb + 1) A Ax) → Gx 70 = st1 → Gx 79 = lg1 → Gx 77 = lb1 → Ax 51 (nw).toNat = fw1 → Gx 81 = nw → Gx 89 = al → ((-2147483648 : Int) ≤ w ∧ w ≤ 2147483647) → ((-2147483648 : Int) ≤ mn ∧ mn ≤ 2147483647) → ((-2147483648 : Int) ≤ le ∧ le ≤ 2147483647) → ((-2147483648 : Int) ≤ b6 ∧ b6 ≤ 2147483647) → ((-2147483648 : Int) ≤ dp ∧ dp ≤ 2147483647) → ((-2147483648 : Int) ≤ c ∧ c ≤ 2147483647) → ((-2147483648 : Int) ≤ i ∧ i ≤ 2147483647) → (st ≤ st1) → (st1 ≤ 7000) → (lg ≤ lg1) → (lg1 ≤ 1) → (lb + 2 ≤ lb1) → (Cd (lg1 = 0) (lb1 - lb ≤ st1 - st)) → (lb1 - lb ≤ 2 + 2 * i) → (w = T0 25 (n).toNat) → (mn = T0 18 (n).toNat) → (b6 = 8 * nw) → (dp = dpt T0 n (i).toNat) → (c = kid T0 n (i).toNat) → (0 ≤ i) → (i ≤ mn) → (fw1 = fw) → (1 ≤ le) → (le ≤ 19999) → (Cd (lb1 < 20000) (le = lb + 1)) → (T0 15 (n).toNat = 28) → (FA F (nw) Ax) → (SA T0 Vs Sn Ax) → (PE 56 (La) (b6) (i) Ax) → (PE 57 (fL T0 F nw n) (b6) (i) Ax) → (LBd (La) (i)) → (Cd (lg1 = 0 ∧ lb1 < 19999) (gP1 T0 Ax (La) (n) ((i).toNat) (le) (st) (st1) (lb + 1) (lb1))) → wj X d jm358 (118, L, [], rV c0 c1 Gx Ax T) (fun o V' => ∃ (G' : Nat → Int) (A' : Nat → Nat → Int) (st2 : Int) (lg2 : Int) (lb2 : Int) (nw2 : Int) (al2 : Int) (fw2 : Int), V' = rV c0 c1 G' A' T ∧ o = .inl none ∧ Wk G' A' ∧ Fr [70, 77, 79, 81, 89] [13, 44, 45, 46, 47, 50, 51, 56, 57, 58] G A G' A' ∧ Fx [44, 45, 46, 47] (st) A A' ∧ Fx [58] (8 * al) A A' ∧ Fx [56, 57] (8 * nw) A A' ∧ G' 70 = st2 ∧ G' 79 = lg2 ∧ G' 77 = lb2 ∧ G' 81 = nw2 ∧ G' 89 = al2 ∧ A' 51 (nw).toNat = fw2 ∧ (st ≤ st2) ∧ (st2 ≤ 7000) ∧ (lg ≤ lg2) ∧ (lg2 ≤ 1) ∧ (lb ≤ lb2) ∧ (Cd (lg2 = 0) (lb2 - lb ≤ st2 - st)) ∧ (lb2 - lb ≤ st2 - st + bd) ∧ (Cd (lg2 = 0 ∧ lb2 < 19999) (Fx [50] (lb + 1) A A')) ∧ (nw2 = nw) ∧ (al2 = al) ∧ (fw2 = fw) ∧ (FA F (nw) A') ∧ (SA T0 Vs Sn A') ∧ (Cd (lg2 = 0 ∧ lb2 < 19999) (gPa T0 A' (gP T0 A' Q k) F Sn nw (n) (st) (st2) (lb) (lb2))) ∧ True) := by
  have hF0 : Fr [70, 77, 79, 81, 89] [13, 44, 45, 46, 47, 50, 51, 56, 57, 58] G A G A := Fr_rf
  have hC0 : Fx [44, 45, 46, 47] (st) A A := Fx_rf
  have hAl0 : Fx [58] (8 * al) A A := Fx_rf
  have hBp0 : Fx [56, 57] (8 * nw) A A := Fx_rf
  have b_st : (-2147483648 : Int) ≤ st ∧ st ≤ 2147483647 := e_st ▸ hW.1 70
  have b_lg : (0 : Int) ≤ lg ∧ lg ≤ 1 := e_lg ▸ hW.1 79
  have b_lb : (-2147483648 : Int) ≤ lb ∧ lb ≤ 2147483647 := e_lb ▸ hW.1 77
  have b_nw : (-2147483648 : Int) ≤ nw ∧ nw ≤ 2147483647 := e_nw ▸ hW.1 81
  have b_al : (-2147483648 : Int) ≤ al ∧ al ≤ 2147483647 := e_al ▸ hW.1 89
  have b_fw : (-2147483648 : Int) ≤ fw ∧ fw ≤ 2147483647 := e_fw ▸ hW.2 51 _
  have hWT := TA_w hW p_0
  have hBo0 : Cd (lg = 0 ∧ lb < 19999) (Fx [50] (lb + 1) A A) := Cd_mk (fun _ => Fx_rf)
  have hfw := FA_at p_1 p_4 e_fw
  obtain ⟨hk1, hk2, hk3, hk4⟩ := p_18
  have hbp := WB_p p_23 (by omega) (by omega) (by omega)
  intro m
  induction m using Nat.strongRecOn with
  | ind m ih118_0 =>
    intro L Gx Ax w mn le b6 dp c i st1 lg1 lb1 fw1 La hm gL_0 gL_1 gL_2 gL_3 gL_4 gL_5 gL_6 gL_7 gL_8 gL_9 hWx hFx hCx hAlx hBpx hBox ex_st1 ex_lg1 ex_lb1 ex_fw1 fx_81 fx_89 rx_w rx_mn rx_le rx_b6 rx_dp rx_c rx_i iv_0 iv_1 iv_2 iv_3 iv_4 iv_5 iv_6 iv_7 iv_8 iv_9 iv_10 iv_11 iv_12 iv_13 iv_14 iv_15 iv_16 iv_17 iv_18 iv_19 iv_20 iv_21 iv_22 iv_23 iv_24
    have b_st1 : (-2147483648 : Int) ≤ st1 ∧ st1 ≤ 2147483647 := ex_st1 ▸ hWx.1 70
    have b_lg1 : (0 : Int) ≤ lg1 ∧ lg1 ≤ 1 := ex_lg1 ▸ hWx.1 79
    have b_lb1 : (-2147483648 : Int) ≤ lb1 ∧ lb1 ≤ 2147483647 := ex_lb1 ▸ hWx.1 77
    have hmy : mny T0 n = T0 18 (n).toNat := if_neg (by omega)
    refine jx_ld (pc' := 120) (l' := L) (st' := [.int (i32 (i))]) rfl (jl_iload gL_9) ?_
    refine jx_ld (pc' := 122) (l' := L) (st' := [.int (i32 (mn)), .int (i32 (i))]) rfl (jl_iload gL_4) ?_
    refine jx_icmp_ge (pc' := 125) (tg := 284) rfl rfl rfl (Int.le_trans (by decide : (-2147483648 : Int) ≤ -2147483648) rx_i.1) (Int.le_trans rx_i.2 (by decide : (2147483647 : Int) ≤ 2147483647)) (Int.le_trans (by decide : (-2147483648 : Int) ≤ -2147483648) rx_mn.1) (Int.le_trans rx_mn.2 (by decide : (2147483647 : Int) ≤ 2147483647)) (fun h381 => ?_) (fun h381 => ?_)
    · have _q := h381
      refine jx_ld (pc' := 285) (l' := L) (st' := [.ref 66]) rfl (jl_aloadn gL_0) ?_
      refine jx_ar (pc' := 287) (st' := [.int (i32 (18)), .ref 66]) rfl rfl rfl rfl ?_
      refine jx_vr (pc' := 290) (as := [.int (i32 (18))]) (st := []) rfl rfl rfl rfl ⟨rfl, rfl, Nat.le_of_ble_eq_true rfl⟩ rfl rfl (c_op (dd := d) (hd := by omega) (hW := hWx) (oo := 18) (st := st1) (e_st := show Gx 70 = st1 from (ex_st1)) (lg := lg1) (e_lg := show Gx 79 = lg1 from (ex_lg1))  (h_oo := ⟨(by decide), (by decide)⟩)  (p_0 := by omega) (p_1 := by omega)) (fun o V' hq => ?_)
      obtain ⟨G382, A383, st2_384, lg2_385, rfl, rfl, hW386, hF387, hQ388, e389, e390, p391, p392, p393, p394, p395, p396, -⟩ := hq
      have hF398 := Fr_tr hFx hF387 (Fr_sub (by decide)) (Fr_sub (by decide))
      have hC399 := Fx_tr hCx hQ388 (by omega)
      have hAl400 := Fx_f hAlx hF387 (by decide)
      have hBp401 := Fx_f hBpx hF387 (by decide)
      have sf402 := FA_fr (hF387.2 51 rfl) iv_19
      have sf403 := SA_fr (hF387.2 13 rfl) iv_20
      have sf404 : PE 56 (La) (b6) (i) A383 := PE_fr (hF387.2 56 rfl) iv_21
      have sf405 : PE 57 (fL T0 F nw n) (b6) (i) A383 := PE_fr (hF387.2 57 rfl) iv_22
      have bst2_384 : (-2147483648 : Int) ≤ st2_384 ∧ st2_384 ≤ 2147483647 := e389 ▸ hW386.1 70
      have blg2_385 : (0 : Int) ≤ lg2_385 ∧ lg2_385 ≤ 1 := e390 ▸ hW386.1 79
      refine .inl ⟨rfl, ?_⟩
      have sf406 : Cd (lg2_385 = 0 ∧ lb1 < 19999) (gP1 T0 A383 (La) (n) ((i).toNat) (le) (st) (st1) (lb + 1) (lb1)) := Cd_mk (fun hC => gP1_mv (Cg_fx (l0 := lb + 1) (l1 := lb1) hQ388 (Fx_f (w := lb1 + 1) Fx_rf hF387 (by decide)) (by omega)) (by omega) (Cd_ap iv_24 (by omega)))
      have hBo407 : Cd (lg2_385 = 0 ∧ lb1 < 19999) (Fx [50] (lb + 1) A A383) := Cd_mk (fun hC => Fx_f (Cd_ap hBox (by omega)) hF387 (by decide))
      refine jx_ld (pc' := 291) (l' := L) (st' := [.ref 66]) rfl (jl_aloadn gL_0) ?_
      refine jr_get (pc' := 294) (i := 80) (v := .ref 118) rfl rfl (by decide) rfl rfl ?_
      refine jx_ld (pc' := 295) (l' := L) (st' := [.ref 66, .ref 118]) rfl (jl_aloadn gL_0) ?_
      refine jr_get (pc' := 298) (i := 81) (v := .int (i32 (nw))) rfl rfl (by decide) (rFv_eq (by decide) (show G382 81 = nw from ((hF387.1 81 rfl).trans (fx_81)))) rfl ?_
      refine jr_ldv (pc' := 299) (i := 51) (m := 40) (z := nw) (y := fw1) rfl (by decide) rfl (by decide) (by omega) (by omega) rfl (show A383 51 (nw).toNat = fw1 from (congrFun (hF387.2 51 rfl) _).trans (ex_fw1)) ?_
      refine jx_ld (pc' := 301) (l' := jSto1 L 9 (.int (i32 (fw1)))) (st' := []) rfl rfl ?_
      obtain ⟨L408, eL408⟩ : ∃ q, q = jSto1 L 9 (.int (i32 (fw1))) := ⟨_, rfl⟩
      rw [← eL408]
      have gL408_0 : jGet L408 0 = some (.ref 66) := eL408 ▸ jg_ne (by decide) gL_0 rfl
      have gL408_1 : jGet L408 1 = some (.int (i32 (n))) := eL408 ▸ jg_ne (by decide) gL_1 rfl
      have gL408_2 : jGet L408 2 = some (.int (i32 (0))) := eL408 ▸ jg_ne (by decide) gL_2 rfl
      have gL408_3 : jGet L408 3 = some (.int (i32 (w))) := eL408 ▸ jg_ne (by decide) gL_3 rfl
      have gL408_4 : jGet L408 4 = some (.int (i32 (mn))) := eL408 ▸ jg_ne (by decide) gL_4 rfl
      have gL408_5 : jGet L408 5 = some (.int (i32 (le))) := eL408 ▸ jg_ne (by decide) gL_5 rfl
      have gL408_6 : jGet L408 6 = some (.int (i32 (b6))) := eL408 ▸ jg_ne (by decide) gL_6 rfl
      have gL408_7 : jGet L408 7 = some (.int (i32 (dp))) := eL408 ▸ jg_ne (by decide) gL_7 rfl
      have gL408_8 : jGet L408 8 = some (.int (i32 (c))) := eL408 ▸ jg_ne (by decide) gL_8 rfl
      have gL408_9 : jGet L408 9 = some (.int (i32 (fw1))) := eL408 ▸ jg_eq
      have hmy : mny T0 n = T0 18 (n).toNat := if_neg (by omega); have hk0 : kid T0 n (0 : Int).toNat = T0 21 (n).toNat := kid_28 (by omega); have hd0 : dpt T0 n (0 : Int).toNat = 3 := rfl
      refine jx_ld (pc' := 302) (l' := L408) (st' := [.ref 66]) rfl (jl_aloadn gL408_0) ?_
      refine jr_get (pc' := 305) (i := 38) (v := .ref 88) rfl rfl (by decide) rfl rfl ?_
      refine jx_ld (pc' := 306) (l' := L408) (st' := [.int (i32 (n)), .ref 88]) rfl (jl_iloadn gL408_1) ?_
      have b409 : (-2147483648 : Int) ≤ T0 21 (n).toNat ∧ T0 21 (n).toNat ≤ 2147483647 := hWT.2 21 _
      refine jr_ldv (pc' := 307) (i := 21) (m := 7000) (z := n) (y := T0 21 (n).toNat) rfl (by decide) rfl (by decide) (by omega) (by omega) rfl (show A383 21 (n).toNat = T0 21 (n).toNat from (congrFun ((hF387.2 21 rfl).trans ((hFx.2 21 rfl).trans (p_0 21 rfl))) _)) ?_
      refine jx_ld (pc' := 309) (l' := jSto1 L408 8 (.int (i32 (T0 21 (n).toNat)))) (st' := []) rfl rfl ?_
      obtain ⟨L410, eL410⟩ : ∃ q, q = jSto1 L408 8 (.int (i32 (T0 21 (n).toNat))) := ⟨_, rfl⟩
      rw [← eL410]
      have gL410_0 : jGet L410 0 = some (.ref 66) := eL410 ▸ jg_ne (by decide) gL408_0 rfl
      have gL410_1 : jGet L410 1 = some (.int (i32 (n))) := eL410 ▸ jg_ne (by decide) gL408_1 rfl
      have gL410_2 : jGet L410 2 = some (.int (i32 (0))) := eL410 ▸ jg_ne (by decide) gL408_2 rfl
      have gL410_3 : jGet L410 3 = some (.int (i32 (w))) := eL410 ▸ jg_ne (by decide) gL408_3 rfl
      have gL410_4 : jGet L410 4 = some (.int (i32 (mn))) := eL410 ▸ jg_ne (by decide) gL408_4 rfl
      have gL410_5 : jGet L410 5 = some (.int (i32 (le))) := eL410 ▸ jg_ne (by decide) gL408_5 rfl
      have gL410_6 : jGet L410 6 = some (.int (i32 (b6))) := eL410 ▸ jg_ne (by decide) gL408_6 rfl
      have gL410_7 : jGet L410 7 = some (.int (i32 (dp))) := eL410 ▸ jg_ne (by decide) gL408_7 rfl
      have gL410_9 : jGet L410 9 = some (.int (i32 (fw1))) := eL410 ▸ jg_ne (by decide) gL408_9 rfl
      have gL410_8 : jGet L410 8 = some (.int (i32 (T0 21 (n).toNat))) := eL410 ▸ jg_eq
      refine jx_ar (pc' := 310) (st' := [.int (i32 (0))]) rfl rfl rfl rfl ?_
      refine jx_ld (pc' := 312) (l' := jSto1 L410 10 (.int (i32 (0)))) (st' := []) rfl rfl ?_
      obtain ⟨L411, eL411⟩ : ∃ q, q = jSto1 L410 10 (.int (i32 (0))) := ⟨_, rfl⟩
      rw [← eL411]
      have gL411_0 : jGet L411 0 = some (.ref 66) := eL411 ▸ jg_ne (by decide) gL410_0 rfl
      have gL411_1 : jGet L411 1 = some (.int (i32 (n))) := eL411 ▸ jg_ne (by decide) gL410_1 rfl
      have gL411_2 : jGet L411 2 = some (.int (i32 (0))) := eL411 ▸ jg_ne (by decide) gL410_2 rfl
      have gL411_3 : jGet L411 3 = some (.int (i32 (w))) := eL411 ▸ jg_ne (by decide) gL410_3 rfl
      have gL411_4 : jGet L411 4 = some (.int (i32 (mn))) := eL411 ▸ jg_ne (by decide) gL410_4 rfl
      have gL411_5 : jGet L411 5 = some (.int (i32 (le))) := eL411 ▸ jg_ne (by decide) gL410_5 rfl
      have gL411_6 : jGet L411 6 = some (.int (i32 (b6))) := eL411 ▸ jg_ne (by decide) gL410_6 rfl
      have gL411_7 : jGet L411 7 = some (.int (i32 (dp))) := eL411 ▸ jg_ne (by decide) gL410_7 rfl
      have gL411_9 : jGet L411 9 = some (.int (i32 (fw1))) := eL411 ▸ jg_ne (by decide) gL410_9 rfl
      have gL411_8 : jGet L411 8 = some (.int (i32 (T0 21 (n).toNat))) := eL411 ▸ jg_ne (by decide) gL410_8 rfl
      have gL411_10 : jGet L411 10 = some (.int (i32 (0))) := eL411 ▸ jg_eq
      exact c_genPar_at_312_0 (X := X) (k := k) (hN := hN) (d := d) (T0 := T0) (Q := Q) (F := F) (Sn := Sn) (Vs := Vs) (sb := sb) (pb := pb) (c0 := c0) (c1 := c1) (G := G) (A := A) (T := T) (n := n) (hi := hi) (s0 := s0) (s1 := s1) (D := D) (bd := bd) (st := st) (lg := lg) (lb := lb) (nw := nw) (al := al) (fw := fw) (hd := hd) (hW := hW) (e_st := e_st) (e_lg := e_lg) (e_lb := e_lb) (e_nw := e_nw) (e_al := e_al) (e_fw := e_fw) (h_n := h_n) (p_0 := p_0) (p_1 := p_1) (p_2 := p_2) (p_3 := p_3) (p_4 := p_4) (p_5 := p_5) (p_6 := p_6) (p_7 := p_7) (p_8 := p_8) (p_9 := p_9) (p_10 := p_10) (p_11 := p_11) (p_12 := p_12) (p_13 := p_13) (p_14 := p_14) (p_15 := p_15) (p_16 := p_16) (p_17 := p_17) (p_18 := p_18) (p_19 := p_19) (p_20 := p_20) (p_21 := p_21) (p_22 := p_22) (p_23 := p_23) (p_24 := p_24) (p_25 := p_25) (p_26 := p_26) (p_27 := p_27) (p_28 := p_28) (p_29 := p_29) (p_30 := p_30) _ L411 G382 A383 (w) (mn) (le) (b6) (T0 21 (n).toNat) (fw1) (0) (st2_384) (lg2_385) (lb1) (fw1) ((fun _ => 0)) rfl gL411_0 gL411_1 gL411_2 gL411_3 gL411_4 gL411_5 gL411_6 gL411_8 gL411_9 gL411_10 hW386 hF398 hC399 hAl400 hBp401 (Cd_mk (fun hC => Cd_ap hBo407 (by omega))) ((e389)) ((e390)) (((hF387.1 77 rfl).trans (ex_lb1))) ((congrFun (hF387.2 51 rfl) _).trans (ex_fw1)) (((hF387.1 81 rfl).trans (fx_81))) (((hF387.1 89 rfl).trans (fx_89))) (by omega) (by omega) (by omega) (by omega) (by omega) (by omega) (by omega) (by omega) (by omega) (by omega) (by omega) (by omega) ((Cd_mk (fun hC => by have := Cd_ap iv_5 (by omega); omega))) (by omega) (by omega) (by omega) (by omega) (by omega) (by omega) (by omega) (by omega) (by omega) (by omega) (by omega) ((Cd_mk (fun hC => (by have hr := Cd_ap iv_17 (by omega); omega)))) (by omega) (sf402) (sf403) ((PE_i (by omega) sf404)) ((PE_i (by omega) sf405)) ((LBd_i (by omega) iv_23)) ((Cd_mk (fun hC => (gP2_0 (by omega) (Cd_ap sf406 (by omega)) (by omega) (Cd_ap p396 (by omega)) (by omega) rfl))))
    · have _q := h381
      obtain ⟨hj1, ⟨a8, b8, u8, v8, ha8, hb8, hu8, hu9, hv8, hw8⟩, hj3, hj4, hj5, hj6, hj7⟩ := hk4 (i).toNat (by omega); have hin8 := wP_in hw8; have hk26 : T0 26 (c).toNat = T0 26 (kid T0 n (i).toNat).toNat := (by rw [iv_11]); have hk27 : T0 27 (c).toNat = T0 27 (kid T0 n (i).toNat).toNat := (by rw [iv_11]); have hk22 : T0 22 (c).toNat = T0 22 (kid T0 n (i).toNat).toNat := (by rw [iv_11])
      refine jx_ld (pc' := 126) (l' := L) (st' := [.ref 66]) rfl (jl_aloadn gL_0) ?_
      refine jr_get (pc' := 129) (i := 86) (v := .ref 123) rfl rfl (by decide) rfl rfl ?_
      refine jx_ld (pc' := 131) (l' := L) (st' := [.int (i32 (b6)), .ref 123]) rfl (jl_iload gL_6) ?_
      refine jx_ld (pc' := 133) (l' := L) (st' := [.int (i32 (i)), .int (i32 (b6)), .ref 123]) rfl (jl_iload gL_9) ?_
      refine jx_add (pc' := 134) rfl rfl ?_
      refine jx_ld (pc' := 135) (l' := L) (st' := [.ref 66, .int (i32 ((b6 + i))), .ref 123]) rfl (jl_aloadn gL_0) ?_
      refine jx_vr (pc' := 138) (as := []) (st := [.int (i32 ((b6 + i))), .ref 123]) rfl rfl rfl rfl ⟨rfl, rfl, Nat.le_of_ble_eq_true rfl⟩ rfl rfl (c_label (dd := d) (hd := by omega) (hW := hWx)  (lb := lb1) (e_lb := show Gx 77 = lb1 from (ex_lb1))    (p_0 := by omega) (p_1 := by omega)) (fun o V' hq => ?_)
      obtain ⟨G412, A413, r414, lb2_415, rfl, rfl, hW416, hF417, b418, e419, p420, p421, p422, p423, -⟩ := hq
      have hF425 := Fr_tr hFx hF417 (Fr_sub (by decide)) (Fr_sub (by decide))
      have hC426 := Fx_f hCx hF417 (by decide)
      have hAl427 := Fx_f hAlx hF417 (by decide)
      have hBp428 := Fx_f hBpx hF417 (by decide)
      have sf429 := FA_fr (hF417.2 51 rfl) iv_19
      have sf430 := SA_fr (hF417.2 13 rfl) iv_20
      have sf431 : PE 56 (La) (b6) (i) A413 := PE_fr (hF417.2 56 rfl) iv_21
      have sf432 : PE 57 (fL T0 F nw n) (b6) (i) A413 := PE_fr (hF417.2 57 rfl) iv_22
      have blb2_415 : (-2147483648 : Int) ≤ lb2_415 ∧ lb2_415 ≤ 2147483647 := e419 ▸ hW416.1 77
      refine .inr ⟨_, rfl, ?_⟩
      have sf433 : Cd (lg1 = 0 ∧ lb2_415 < 19999) (gP1 T0 A413 (La) (n) ((i).toNat) (le) (st) (st1) (lb + 1) (lb1)) := Cd_mk (fun hC => gP1_mv (Cg_fx (l0 := lb + 1) (l1 := lb1) (Fx_f (w := st1) Fx_rf hF417 (by decide)) (Fx_f (w := lb1 + 1) Fx_rf hF417 (by decide)) (by omega)) (by omega) (Cd_ap iv_24 (by omega)))
      have hBo434 : Cd (lg1 = 0 ∧ lb2_415 < 19999) (Fx [50] (lb + 1) A A413) := Cd_mk (fun hC => Fx_f (Cd_ap hBox (by omega)) hF417 (by decide))
      have _q : True := trivial
      refine jr_st (pc' := 139) (i := 56) (m := 320) (z := (b6 + i)) (y := r414) rfl (by decide) rfl (by decide) (by omega) (by omega) rfl ?_
      have hW436 : Wk G412 (uA A413 56 ((b6 + i)).toNat (r414)) := Wk_a hW416 (show (-2147483648 : Int) ≤ r414 by omega) (show r414 ≤ (2147483647 : Int) by omega)
      have hF437 := Fr_a (z := r414) (k := 56) (n := ((b6 + i)).toNat) hF425 (by decide)
      obtain ⟨A435, eA435⟩ : ∃ q, q = uA A413 56 ((b6 + i)).toNat (r414) := ⟨_, rfl⟩
      rw [← eA435]
      rw [← eA435] at hW436 hF437
      have q438 : A435 56 ((b6 + i)).toNat = r414 := by rw [eA435]; exact uA_eq
      have hC439 : Fx [44, 45, 46, 47] (st) A A435 := eA435 ▸ Fx_n hC426 rfl
      have hAl440 : Fx [58] (8 * al) A A435 := eA435 ▸ Fx_n hAl427 rfl
      have hBp441 : Fx [56, 57] (8 * nw) A A435 := eA435 ▸ Fx_a hBp428 (z := (b6 + i)) (by omega) (by omega)
      have sf442 := FA_fr ((congrFun eA435 51).trans (uA_ne (by decide))) sf429
      have sf443 := SA_fr ((congrFun eA435 13).trans (uA_ne (by decide))) sf430
      have sf444 : PE 56 (upf La i r414) (b6) ((i + 1)) A435 := PE_nx eA435 (by omega) (by omega) (by omega) (by omega) upf_e (PE_up sf431)
      have sf445 : PE 57 (fL T0 F nw n) (b6) (i) A435 := PE_fr ((congrFun eA435 57).trans (uA_ne (by decide))) sf432
      have sf446 : Cd (lg1 = 0 ∧ lb2_415 < 19999) (gP1 T0 A435 (La) (n) ((i).toNat) (le) (st) (st1) (lb + 1) (lb1)) := Cd_mk (fun hC => gP1_mv (Cg_ne (K := st1) eA435 rfl) (Int.le_refl _) (Cd_ap sf433 (by omega)))
      have hds := dpt_s (T := T0) (p := n) (i := i) (by omega); have hks := kid_s (T := T0) (p := n) (i := i) (by omega) iv_18
      refine jx_ld (pc' := 140) (l' := L) (st' := [.ref 66]) rfl (jl_aloadn gL_0) ?_
      refine jr_get (pc' := 143) (i := 87) (v := .ref 124) rfl rfl (by decide) rfl rfl ?_
      refine jx_ld (pc' := 145) (l' := L) (st' := [.int (i32 (b6)), .ref 124]) rfl (jl_iload gL_6) ?_
      refine jx_ld (pc' := 147) (l' := L) (st' := [.int (i32 (i)), .int (i32 (b6)), .ref 124]) rfl (jl_iload gL_9) ?_
      refine jx_add (pc' := 148) rfl rfl ?_
      refine jx_ld (pc' := 149) (l' := L) (st' := [.ref 66, .int (i32 ((b6 + i))), .ref 124]) rfl (jl_aloadn gL_0) ?_
      refine jr_get (pc' := 152) (i := 80) (v := .ref 118) rfl rfl (by decide) rfl rfl ?_
      refine jx_ld (pc' := 153) (l' := L) (st' := [.ref 66, .ref 118, .int (i32 ((b6 + i))), .ref 124]) rfl (jl_aloadn gL_0) ?_
      refine jr_get (pc' := 156) (i := 81) (v := .int (i32 (nw))) rfl rfl (by decide) (rFv_eq (by decide) (show G412 81 = nw from ((hF417.1 81 rfl).trans (fx_81)))) rfl ?_
      refine jr_ldv (pc' := 157) (i := 51) (m := 40) (z := nw) (y := fw1) rfl (by decide) rfl (by decide) (by omega) (by omega) rfl (show A435 51 (nw).toNat = fw1 from (congrFun (((congrFun eA435 51).trans (uA_ne (by decide))).trans (hF417.2 51 rfl)) _).trans (ex_fw1)) ?_
      refine jx_ld (pc' := 159) (l' := L) (st' := [.int (i32 (dp)), .int (i32 (fw1)), .int (i32 ((b6 + i))), .ref 124]) rfl (jl_iload gL_7) ?_
      refine jx_sub (pc' := 160) rfl rfl ?_
      refine jx_ld (pc' := 161) (l' := L) (st' := [.ref 66, .int (i32 ((fw1 - dp))), .int (i32 ((b6 + i))), .ref 124]) rfl (jl_aloadn gL_0) ?_
      refine jr_get (pc' := 164) (i := 43) (v := .ref 93) rfl rfl (by decide) rfl rfl ?_
      refine jx_ld (pc' := 166) (l' := L) (st' := [.int (i32 (c)), .ref 93, .int (i32 ((fw1 - dp))), .int (i32 ((b6 + i))), .ref 124]) rfl (jl_iload gL_8) ?_
      have b447 : (-2147483648 : Int) ≤ T0 26 (c).toNat ∧ T0 26 (c).toNat ≤ 2147483647 := hWT.2 26 _
      refine jr_ldv (pc' := 167) (i := 26) (m := 7000) (z := c) (y := T0 26 (c).toNat) rfl (by decide) rfl (by decide) (by omega) (by omega) rfl (show A435 26 (c).toNat = T0 26 (c).toNat from (congrFun (((congrFun eA435 26).trans (uA_ne (by decide))).trans ((hF417.2 26 rfl).trans ((hFx.2 26 rfl).trans (p_0 26 rfl)))) _)) ?_
      refine jx_sub (pc' := 168) rfl rfl ?_
      refine jr_st (pc' := 169) (i := 57) (m := 320) (z := (b6 + i)) (y := ((fw1 - dp) - T0 26 (c).toNat)) rfl (by decide) rfl (by decide) (by omega) (by omega) rfl ?_
      have hW449 : Wk G412 (uA A435 57 ((b6 + i)).toNat (((fw1 - dp) - T0 26 (c).toNat))) := Wk_a hW436 (show (-2147483648 : Int) ≤ ((fw1 - dp) - T0 26 (c).toNat) by omega) (show ((fw1 - dp) - T0 26 (c).toNat) ≤ (2147483647 : Int) by omega)
      have hF450 := Fr_a (z := ((fw1 - dp) - T0 26 (c).toNat)) (k := 57) (n := ((b6 + i)).toNat) hF437 (by decide)
      obtain ⟨A448, eA448⟩ : ∃ q, q = uA A435 57 ((b6 + i)).toNat (((fw1 - dp) - T0 26 (c).toNat)) := ⟨_, rfl⟩
      rw [← eA448]
      rw [← eA448] at hW449 hF450
      have q451 : A448 57 ((b6 + i)).toNat = ((fw1 - dp) - T0 26 (c).toNat) := by rw [eA448]; exact uA_eq
      have hC452 : Fx [44, 45, 46, 47] (st) A A448 := eA448 ▸ Fx_n hC439 rfl
      have hAl453 : Fx [58] (8 * al) A A448 := eA448 ▸ Fx_n hAl440 rfl
      have hBp454 : Fx [56, 57] (8 * nw) A A448 := eA448 ▸ Fx_a hBp441 (z := (b6 + i)) (by omega) (by omega)
      have sf455 := FA_fr ((congrFun eA448 51).trans (uA_ne (by decide))) sf442
      have sf456 := SA_fr ((congrFun eA448 13).trans (uA_ne (by decide))) sf443
      have sf457 : PE 56 (upf La i r414) (b6) ((i + 1)) A448 := PE_fr ((congrFun eA448 56).trans (uA_ne (by decide))) sf444
      have sf458 : PE 57 (fL T0 F nw n) (b6) ((i + 1)) A448 := PE_nx eA448 (by omega) (by omega) (by omega) (by omega) (show fL T0 F nw n (i) = ((fw1 - dp) - T0 26 (c).toNat) by unfold fL; omega) sf445
      have sf459 : Cd (lg1 = 0 ∧ lb2_415 < 19999) (gP1 T0 A448 (La) (n) ((i).toNat) (le) (st) (st1) (lb + 1) (lb1)) := Cd_mk (fun hC => gP1_mv (Cg_ne (K := st1) eA448 rfl) (Int.le_refl _) (Cd_ap sf446 (by omega)))
      refine jx_ld (pc' := 171) (l' := L) (st' := [.int (i32 (dp))]) rfl (jl_iload gL_7) ?_
      refine jx_ld (pc' := 172) (l' := L) (st' := [.ref 66, .int (i32 (dp))]) rfl (jl_aloadn gL_0) ?_
      refine jr_get (pc' := 175) (i := 43) (v := .ref 93) rfl rfl (by decide) rfl rfl ?_
      refine jx_ld (pc' := 177) (l' := L) (st' := [.int (i32 (c)), .ref 93, .int (i32 (dp))]) rfl (jl_iload gL_8) ?_
      refine jr_ldv (pc' := 178) (i := 26) (m := 7000) (z := c) (y := T0 26 (c).toNat) rfl (by decide) rfl (by decide) (by omega) (by omega) rfl (show A448 26 (c).toNat = T0 26 (c).toNat from (congrFun (((congrFun eA448 26).trans (uA_ne (by decide))).trans (((congrFun eA435 26).trans (uA_ne (by decide))).trans ((hF417.2 26 rfl).trans ((hFx.2 26 rfl).trans (p_0 26 rfl))))) _)) ?_
      refine jx_add (pc' := 179) rfl rfl ?_
      refine jx_ld (pc' := 180) (l' := L) (st' := [.ref 66, .int (i32 ((dp + T0 26 (c).toNat)))]) rfl (jl_aloadn gL_0) ?_
      refine jr_get (pc' := 183) (i := 44) (v := .ref 94) rfl rfl (by decide) rfl rfl ?_
      refine jx_ld (pc' := 185) (l' := L) (st' := [.int (i32 (c)), .ref 94, .int (i32 ((dp + T0 26 (c).toNat)))]) rfl (jl_iload gL_8) ?_
      have b460 : (-2147483648 : Int) ≤ T0 27 (c).toNat ∧ T0 27 (c).toNat ≤ 2147483647 := hWT.2 27 _
      refine jr_ldv (pc' := 186) (i := 27) (m := 7000) (z := c) (y := T0 27 (c).toNat) rfl (by decide) rfl (by decide) (by omega) (by omega) rfl (show A448 27 (c).toNat = T0 27 (c).toNat from (congrFun (((congrFun eA448 27).trans (uA_ne (by decide))).trans (((congrFun eA435 27).trans (uA_ne (by decide))).trans ((hF417.2 27 rfl).trans ((hFx.2 27 rfl).trans (p_0 27 rfl))))) _)) ?_
      refine jx_add (pc' := 187) rfl rfl ?_
      refine jx_ar (pc' := 188) (st' := [.int (i32 (3)), .int (i32 (((dp + T0 26 (c).toNat) + T0 27 (c).toNat)))]) rfl rfl rfl rfl ?_
      refine jx_add (pc' := 189) rfl rfl ?_
      refine jx_ld (pc' := 191) (l' := jSto1 L 7 (.int (i32 ((((dp + T0 26 (c).toNat) + T0 27 (c).toNat) + 3))))) (st' := []) rfl rfl ?_
      obtain ⟨L461, eL461⟩ : ∃ q, q = jSto1 L 7 (.int (i32 ((((dp + T0 26 (c).toNat) + T0 27 (c).toNat) + 3)))) := ⟨_, rfl⟩
      rw [← eL461]
      have gL461_0 : jGet L461 0 = some (.ref 66) := eL461 ▸ jg_ne (by decide) gL_0 rfl
      have gL461_1 : jGet L461 1 = some (.int (i32 (n))) := eL461 ▸ jg_ne (by decide) gL_1 rfl
      have gL461_2 : jGet L461 2 = some (.int (i32 (0))) := eL461 ▸ jg_ne (by decide) gL_2 rfl
      have gL461_3 : jGet L461 3 = some (.int (i32 (w))) := eL461 ▸ jg_ne (by decide) gL_3 rfl
      have gL461_4 : jGet L461 4 = some (.int (i32 (mn))) := eL461 ▸ jg_ne (by decide) gL_4 rfl
      have gL461_5 : jGet L461 5 = some (.int (i32 (le))) := eL461 ▸ jg_ne (by decide) gL_5 rfl
      have gL461_6 : jGet L461 6 = some (.int (i32 (b6))) := eL461 ▸ jg_ne (by decide) gL_6 rfl
      have gL461_8 : jGet L461 8 = some (.int (i32 (c))) := eL461 ▸ jg_ne (by decide) gL_8 rfl
      have gL461_9 : jGet L461 9 = some (.int (i32 (i))) := eL461 ▸ jg_ne (by decide) gL_9 rfl
      have gL461_7 : jGet L461 7 = some (.int (i32 ((((dp + T0 26 (c).toNat) + T0 27 (c).toNat) + 3)))) := eL461 ▸ jg_eq
      refine jx_ld (pc' := 192) (l' := L461) (st' := [.ref 66]) rfl (jl_aloadn gL461_0) ?_
      refine jx_ld (pc' := 193) (l' := L461) (st' := [.ref 66, .ref 66]) rfl (jl_aloadn gL461_0) ?_
      refine jr_get (pc' := 196) (i := 86) (v := .ref 123) rfl rfl (by decide) rfl rfl ?_
      refine jx_ld (pc' := 198) (l' := L461) (st' := [.int (i32 (b6)), .ref 123, .ref 66]) rfl (jl_iload gL461_6) ?_
      refine jx_ld (pc' := 200) (l' := L461) (st' := [.int (i32 (i)), .int (i32 (b6)), .ref 123, .ref 66]) rfl (jl_iload gL461_9) ?_
      refine jx_add (pc' := 201) rfl rfl ?_
      refine jr_ldv (pc' := 202) (i := 56) (m := 320) (z := (b6 + i)) (y := r414) rfl (by decide) rfl (by decide) (by omega) (by omega) rfl (show A448 56 ((b6 + i)).toNat = r414 from (congrFun ((congrFun eA448 56).trans (uA_ne (by decide))) _).trans (q438)) ?_
      refine jx_vr (pc' := 205) (as := [.int (i32 (r414))]) (st := []) rfl rfl rfl rfl ⟨rfl, rfl, Nat.le_of_ble_eq_true rfl⟩ rfl rfl (c_place (dd := d) (hd := by omega) (hW := hW449) (to := r414) (st := st1) (e_st := show G412 70 = st1 from ((hF417.1 70 rfl).trans (ex_st1))) (lg := lg1) (e_lg := show G412 79 = lg1 from ((hF417.1 79 rfl).trans (ex_lg1))) (lb := lb2_415) (e_lb := show G412 77 = lb2_415 from (e419))  (h_to := ⟨(Int.le_trans (by decide : (-2147483648 : Int) ≤ -2147483648) b418.1), (Int.le_trans b418.2 (by decide : (2147483647 : Int) ≤ 2147483647))⟩)  (p_0 := by omega) (p_1 := by omega) (p_2 := by omega) (p_3 := by omega)) (fun o V' hq => ?_)
      obtain ⟨G462, A463, st2_464, lg2_465, lb2_466, rfl, rfl, hW467, hF468, hQ469, e470, e471, e472, p473, p474, p475, p476, p477, p478, p479, p480, -⟩ := hq
      have hF482 := Fr_tr hF450 hF468 (Fr_sub (by decide)) (Fr_sub (by decide))
      have hC483 := Fx_tr hC452 hQ469 (by omega)
      have hAl484 := Fx_f hAl453 hF468 (by decide)
      have hBp485 := Fx_f hBp454 hF468 (by decide)
      have sf486 := FA_fr (hF468.2 51 rfl) sf455
      have sf487 := SA_fr (hF468.2 13 rfl) sf456
      have sf488 : PE 56 (upf La i r414) (b6) ((i + 1)) A463 := PE_fr (hF468.2 56 rfl) sf457
      have sf489 : PE 57 (fL T0 F nw n) (b6) ((i + 1)) A463 := PE_fr (hF468.2 57 rfl) sf458
      have bst2_464 : (-2147483648 : Int) ≤ st2_464 ∧ st2_464 ≤ 2147483647 := e470 ▸ hW467.1 70
      have blg2_465 : (0 : Int) ≤ lg2_465 ∧ lg2_465 ≤ 1 := e471 ▸ hW467.1 79
      have blb2_466 : (-2147483648 : Int) ≤ lb2_466 ∧ lb2_466 ≤ 2147483647 := e472 ▸ hW467.1 77
      refine .inl ⟨rfl, ?_⟩
      have sf490 : Cd (lg2_465 = 0 ∧ lb2_466 < 19999) (gP1 T0 A463 (La) (n) ((i).toNat) (le) (st) (st1) (lb + 1) (lb1)) := Cd_mk (fun hC => gP1_mv (Cg_fx (l0 := lb + 1) (l1 := lb1) hQ469 (Cd_ap p479 (by omega)) (by omega)) (by omega) (Cd_ap sf459 (by omega)))
      have hBo491 : Cd (lg2_465 = 0 ∧ lb2_466 < 19999) (Fx [50] (lb + 1) A A463) := Cd_mk (fun hC => Fx_tr (Cd_ap hBo434 (by omega)) (Cd_ap p479 (by omega)) (by omega))
      refine jx_ld (pc' := 206) (l' := L461) (st' := [.ref 66]) rfl (jl_aloadn gL461_0) ?_
      refine jx_ar (pc' := 207) (st' := [.int (i32 (1)), .ref 66]) rfl rfl rfl rfl ?_
      refine jx_ld (pc' := 208) (l' := L461) (st' := [.ref 66, .int (i32 (1)), .ref 66]) rfl (jl_aloadn gL461_0) ?_
      refine jr_get (pc' := 211) (i := 87) (v := .ref 124) rfl rfl (by decide) rfl rfl ?_
      refine jx_ld (pc' := 213) (l' := L461) (st' := [.int (i32 (b6)), .ref 124, .int (i32 (1)), .ref 66]) rfl (jl_iload gL461_6) ?_
      refine jx_ld (pc' := 215) (l' := L461) (st' := [.int (i32 (i)), .int (i32 (b6)), .ref 124, .int (i32 (1)), .ref 66]) rfl (jl_iload gL461_9) ?_
      refine jx_add (pc' := 216) rfl rfl ?_
      refine jr_ldv (pc' := 217) (i := 57) (m := 320) (z := (b6 + i)) (y := ((fw1 - dp) - T0 26 (c).toNat)) rfl (by decide) rfl (by decide) (by omega) (by omega) rfl (show A463 57 ((b6 + i)).toNat = ((fw1 - dp) - T0 26 (c).toNat) from (congrFun (hF468.2 57 rfl) _).trans (q451)) ?_
      refine jx_ld (pc' := 218) (l' := L461) (st' := [.ref 66, .int (i32 (((fw1 - dp) - T0 26 (c).toNat))), .int (i32 (1)), .ref 66]) rfl (jl_aloadn gL461_0) ?_
      refine jr_get (pc' := 221) (i := 80) (v := .ref 118) rfl rfl (by decide) rfl rfl ?_
      refine jx_ld (pc' := 222) (l' := L461) (st' := [.ref 66, .ref 118, .int (i32 (((fw1 - dp) - T0 26 (c).toNat))), .int (i32 (1)), .ref 66]) rfl (jl_aloadn gL461_0) ?_
      refine jr_get (pc' := 225) (i := 81) (v := .int (i32 (nw))) rfl rfl (by decide) (rFv_eq (by decide) (show G462 81 = nw from ((hF468.1 81 rfl).trans ((hF417.1 81 rfl).trans (fx_81))))) rfl ?_
      refine jr_ldv (pc' := 226) (i := 51) (m := 40) (z := nw) (y := fw1) rfl (by decide) rfl (by decide) (by omega) (by omega) rfl (show A463 51 (nw).toNat = fw1 from (congrFun ((hF468.2 51 rfl).trans (((congrFun eA448 51).trans (uA_ne (by decide))).trans (((congrFun eA435 51).trans (uA_ne (by decide))).trans (hF417.2 51 rfl)))) _).trans (ex_fw1)) ?_
      refine jx_sub (pc' := 227) rfl rfl ?_
      refine jx_vr (pc' := 230) (as := [.int (i32 (1)), .int (i32 ((((fw1 - dp) - T0 26 (c).toNat) - fw1)))]) (st := []) rfl rfl rfl rfl ⟨rfl, rfl, Nat.le_of_ble_eq_true rfl⟩ rfl rfl (c_emit (dd := d) (hd := by omega) (hW := hW467) (fn := 1) (v := (((fw1 - dp) - T0 26 (c).toNat) - fw1)) (st := st2_464) (e_st := show G462 70 = st2_464 from (e470)) (lg := lg2_465) (e_lg := show G462 79 = lg2_465 from (e471))  (h_fn := ⟨(by decide), (by decide)⟩) (h_v := ⟨(by omega), (by omega)⟩)  (p_0 := by omega) (p_1 := by omega)) (fun o V' hq => ?_)
      obtain ⟨G492, A493, st2_494, lg2_495, rfl, rfl, hW496, hF497, hQ498, e499, e500, p501, p502, p503, p504, p505, p506, -⟩ := hq
      have hF508 := Fr_tr hF482 hF497 (Fr_sub (by decide)) (Fr_sub (by decide))
      have hC509 := Fx_tr hC483 hQ498 (by omega)
      have hAl510 := Fx_f hAl484 hF497 (by decide)
      have hBp511 := Fx_f hBp485 hF497 (by decide)
      have sf512 := FA_fr (hF497.2 51 rfl) sf486
      have sf513 := SA_fr (hF497.2 13 rfl) sf487
      have sf514 : PE 56 (upf La i r414) (b6) ((i + 1)) A493 := PE_fr (hF497.2 56 rfl) sf488
      have sf515 : PE 57 (fL T0 F nw n) (b6) ((i + 1)) A493 := PE_fr (hF497.2 57 rfl) sf489
      have bst2_494 : (-2147483648 : Int) ≤ st2_494 ∧ st2_494 ≤ 2147483647 := e499 ▸ hW496.1 70
      have blg2_495 : (0 : Int) ≤ lg2_495 ∧ lg2_495 ≤ 1 := e500 ▸ hW496.1 79
      refine .inl ⟨rfl, ?_⟩
      have sf516 : Cd (lg2_495 = 0 ∧ lb2_466 < 19999) (gP1 T0 A493 (La) (n) ((i).toNat) (le) (st) (st1) (lb + 1) (lb1)) := Cd_mk (fun hC => gP1_mv (Cg_fx (l0 := lb + 1) (l1 := lb1) hQ498 (Fx_f (w := lb1 + 1) Fx_rf hF497 (by decide)) (by omega)) (by omega) (Cd_ap sf490 (by omega)))
      have sf517 : Cd (lg2_495 = 0 ∧ lb2_466 < 19999) (PL A493 (st1) (st2_464) (r414) (lb2_415) (lb2_466)) := Cd_mk (fun hC => PL_mv (Cg_fx (l0 := lb2_415) (l1 := lb2_466) hQ498 (Fx_f (w := lb2_466 + 1) Fx_rf hF497 (by decide)) (by omega)) (by omega) (Cd_ap p480 (by omega)))
      have hBo518 : Cd (lg2_495 = 0 ∧ lb2_466 < 19999) (Fx [50] (lb + 1) A A493) := Cd_mk (fun hC => Fx_f (Cd_ap hBo491 (by omega)) hF497 (by decide))
      refine jx_ld (pc' := 231) (l' := L461) (st' := [.ref 66]) rfl (jl_aloadn gL461_0) ?_
      refine jx_ld (pc' := 233) (l' := L461) (st' := [.int (i32 (i)), .ref 66]) rfl (jl_iload gL461_9) ?_
      refine jx_if_ne (pc' := 236) (tg := 255) rfl rfl rfl (Int.le_trans (by decide : (-2147483648 : Int) ≤ -2147483648) rx_i.1) (Int.le_trans rx_i.2 (by decide : (2147483647 : Int) ≤ 2147483647)) (fun h519 => ?_) (fun h519 => ?_)
      · have _q := h519
        refine jx_ar (pc' := 257) (st' := [.int (i32 (15)), .ref 66]) rfl rfl rfl rfl ?_
        refine jx_vr (pc' := 260) (as := [.int (i32 (15))]) (st := []) rfl rfl rfl rfl ⟨rfl, rfl, Nat.le_of_ble_eq_true rfl⟩ rfl rfl (c_op (dd := d) (hd := by omega) (hW := hW496) (oo := 15) (st := st2_494) (e_st := show G492 70 = st2_494 from (e499)) (lg := lg2_495) (e_lg := show G492 79 = lg2_495 from (e500))  (h_oo := ⟨(by decide), (by decide)⟩)  (p_0 := by omega) (p_1 := by omega)) (fun o V' hq => ?_)
        obtain ⟨G520, A521, st2_522, lg2_523, rfl, rfl, hW524, hF525, hQ526, e527, e528, p529, p530, p531, p532, p533, p534, -⟩ := hq
        have hF536 := Fr_tr hF508 hF525 (Fr_sub (by decide)) (Fr_sub (by decide))
        have hC537 := Fx_tr hC509 hQ526 (by omega)
        have hAl538 := Fx_f hAl510 hF525 (by decide)
        have hBp539 := Fx_f hBp511 hF525 (by decide)
        have sf540 := FA_fr (hF525.2 51 rfl) sf512
        have sf541 := SA_fr (hF525.2 13 rfl) sf513
        have sf542 : PE 56 (upf La i r414) (b6) ((i + 1)) A521 := PE_fr (hF525.2 56 rfl) sf514
        have sf543 : PE 57 (fL T0 F nw n) (b6) ((i + 1)) A521 := PE_fr (hF525.2 57 rfl) sf515
        have bst2_522 : (-2147483648 : Int) ≤ st2_522 ∧ st2_522 ≤ 2147483647 := e527 ▸ hW524.1 70
        have blg2_523 : (0 : Int) ≤ lg2_523 ∧ lg2_523 ≤ 1 := e528 ▸ hW524.1 79
        refine .inl ⟨rfl, ?_⟩
        have sf544 : Cd (lg2_523 = 0 ∧ lb2_466 < 19999) (gP1 T0 A521 (La) (n) ((i).toNat) (le) (st) (st1) (lb + 1) (lb1)) := Cd_mk (fun hC => gP1_mv (Cg_fx (l0 := lb + 1) (l1 := lb1) hQ526 (Fx_f (w := lb1 + 1) Fx_rf hF525 (by decide)) (by omega)) (by omega) (Cd_ap sf516 (by omega)))
        have sf545 : Cd (lg2_523 = 0 ∧ lb2_466 < 19999) (PL A521 (st1) (st2_464) (r414) (lb2_415) (lb2_466)) := Cd_mk (fun hC => PL_mv (Cg_fx (l0 := lb2_415) (l1 := lb2_466) hQ526 (Fx_f (w := lb2_466 + 1) Fx_rf hF525 (by decide)) (by omega)) (by omega) (Cd_ap sf517 (by omega)))
        have sf546 : Cd (lg2_523 = 0 ∧ lb2_466 < 19999) (ST A521 (st2_464) (st2_494) (1) (((fw1 - dp) - T0 26 (c).toNat) - fw1)) := Cd_mk (fun hC => ST_mv (Cg_fx (l0 := 0) (l1 := 0) hQ526 (Fx_f (w := 0 + 1) Fx_rf hF525 (by decide)) (by omega)) (by omega) (Cd_ap p506 (by omega)))
        have hBo547 : Cd (lg2_523 = 0 ∧ lb2_466 < 19999) (Fx [50] (lb + 1) A A521) := Cd_mk (fun hC => Fx_f (Cd_ap hBo518 (by omega)) hF525 (by decide))
        refine jx_ld (pc' := 261) (l' := L461) (st' := [.int (i32 (0))]) rfl (jl_iloadn gL461_2) ?_
        refine jx_if_eq (pc' := 264) (tg := 269) rfl rfl rfl (by decide) (by decide) (fun h548 => ?_) (fun h548 => ?_)
        · have _q := h548
          refine jx_ld (pc' := 270) (l' := L461) (st' := [.ref 66]) rfl (jl_aloadn gL461_0) ?_
          refine jr_get (pc' := 273) (i := 39) (v := .ref 89) rfl rfl (by decide) rfl rfl ?_
          refine jx_ld (pc' := 275) (l' := L461) (st' := [.int (i32 (c)), .ref 89]) rfl (jl_iload gL461_8) ?_
          have b549 : (-2147483648 : Int) ≤ T0 22 (c).toNat ∧ T0 22 (c).toNat ≤ 2147483647 := hWT.2 22 _
          refine jr_ldv (pc' := 276) (i := 22) (m := 7000) (z := c) (y := T0 22 (c).toNat) rfl (by decide) rfl (by decide) (by omega) (by omega) rfl (show A521 22 (c).toNat = T0 22 (c).toNat from (congrFun ((hF525.2 22 rfl).trans ((hF497.2 22 rfl).trans ((hF468.2 22 rfl).trans (((congrFun eA448 22).trans (uA_ne (by decide))).trans (((congrFun eA435 22).trans (uA_ne (by decide))).trans ((hF417.2 22 rfl).trans ((hFx.2 22 rfl).trans (p_0 22 rfl)))))))) _)) ?_
          refine jx_ld (pc' := 278) (l' := jSto1 L461 8 (.int (i32 (T0 22 (c).toNat)))) (st' := []) rfl rfl ?_
          obtain ⟨L550, eL550⟩ : ∃ q, q = jSto1 L461 8 (.int (i32 (T0 22 (c).toNat))) := ⟨_, rfl⟩
          rw [← eL550]
          have gL550_0 : jGet L550 0 = some (.ref 66) := eL550 ▸ jg_ne (by decide) gL461_0 rfl
          have gL550_1 : jGet L550 1 = some (.int (i32 (n))) := eL550 ▸ jg_ne (by decide) gL461_1 rfl
          have gL550_2 : jGet L550 2 = some (.int (i32 (0))) := eL550 ▸ jg_ne (by decide) gL461_2 rfl
          have gL550_3 : jGet L550 3 = some (.int (i32 (w))) := eL550 ▸ jg_ne (by decide) gL461_3 rfl
          have gL550_4 : jGet L550 4 = some (.int (i32 (mn))) := eL550 ▸ jg_ne (by decide) gL461_4 rfl
          have gL550_5 : jGet L550 5 = some (.int (i32 (le))) := eL550 ▸ jg_ne (by decide) gL461_5 rfl
          have gL550_6 : jGet L550 6 = some (.int (i32 (b6))) := eL550 ▸ jg_ne (by decide) gL461_6 rfl
          have gL550_9 : jGet L550 9 = some (.int (i32 (i))) := eL550 ▸ jg_ne (by decide) gL461_9 rfl
          have gL550_7 : jGet L550 7 = some (.int (i32 ((((dp + T0 26 (c).toNat) + T0 27 (c).toNat) + 3)))) := eL550 ▸ jg_ne (by decide) gL461_7 rfl
          have gL550_8 : jGet L550 8 = some (.int (i32 (T0 22 (c).toNat))) := eL550 ▸ jg_eq
          refine jx_inc (pc' := 281) (l' := jSto1 L550 9 (.int (i32 ((i + (1)))))) (x := i) rfl gL550_9 (by decide) rfl rfl ?_
          obtain ⟨L551, eL551⟩ : ∃ q, q = jSto1 L550 9 (.int (i32 ((i + (1))))) := ⟨_, rfl⟩
          rw [← eL551]
          have gL551_0 : jGet L551 0 = some (.ref 66) := eL551 ▸ jg_ne (by decide) gL550_0 rfl
          have gL551_1 : jGet L551 1 = some (.int (i32 (n))) := eL551 ▸ jg_ne (by decide) gL550_1 rfl
          have gL551_2 : jGet L551 2 = some (.int (i32 (0))) := eL551 ▸ jg_ne (by decide) gL550_2 rfl
          have gL551_3 : jGet L551 3 = some (.int (i32 (w))) := eL551 ▸ jg_ne (by decide) gL550_3 rfl
          have gL551_4 : jGet L551 4 = some (.int (i32 (mn))) := eL551 ▸ jg_ne (by decide) gL550_4 rfl
          have gL551_5 : jGet L551 5 = some (.int (i32 (le))) := eL551 ▸ jg_ne (by decide) gL550_5 rfl
          have gL551_6 : jGet L551 6 = some (.int (i32 (b6))) := eL551 ▸ jg_ne (by decide) gL550_6 rfl
          have gL551_7 : jGet L551 7 = some (.int (i32 ((((dp + T0 26 (c).toNat) + T0 27 (c).toNat) + 3)))) := eL551 ▸ jg_ne (by decide) gL550_7 rfl
          have gL551_8 : jGet L551 8 = some (.int (i32 (T0 22 (c).toNat))) := eL551 ▸ jg_ne (by decide) gL550_8 rfl
          have gL551_9 : jGet L551 9 = some (.int (i32 ((i + (1))))) := eL551 ▸ jg_eq
          refine jx_go (tg := 118) rfl rfl ?_
          exact ih118_0 _ (by omega) L551 G520 A521 (w) (mn) (le) (b6) ((((dp + T0 26 (c).toNat) + T0 27 (c).toNat) + 3)) (T0 22 (c).toNat) ((i + (1))) (st2_522) (lg2_523) (lb2_466) (fw1) ((upf La i r414)) rfl gL551_0 gL551_1 gL551_2 gL551_3 gL551_4 gL551_5 gL551_6 gL551_7 gL551_8 gL551_9 hW524 hF536 hC537 hAl538 hBp539 (Cd_mk (fun hC => Cd_ap hBo547 (by omega))) ((e527)) ((e528)) (((hF525.1 77 rfl).trans ((hF497.1 77 rfl).trans (e472)))) ((congrFun ((hF525.2 51 rfl).trans ((hF497.2 51 rfl).trans ((hF468.2 51 rfl).trans (((congrFun eA448 51).trans (uA_ne (by decide))).trans (((congrFun eA435 51).trans (uA_ne (by decide))).trans (hF417.2 51 rfl)))))) _).trans (ex_fw1)) (((hF525.1 81 rfl).trans ((hF497.1 81 rfl).trans ((hF468.1 81 rfl).trans ((hF417.1 81 rfl).trans (fx_81)))))) (((hF525.1 89 rfl).trans ((hF497.1 89 rfl).trans ((hF468.1 89 rfl).trans ((hF417.1 89 rfl).trans (fx_89)))))) (by omega) (by omega) (by omega) (by omega) (by omega) (by omega) (by omega) (by omega) (by omega) (by omega) (by omega) (by omega) ((Cd_mk (fun hC => by have := Cd_ap iv_5 (by omega); omega))) (by omega) (by omega) (by omega) (by omega) (by omega) (by omega) (by omega) (by omega) (by omega) (by omega) (by omega) ((Cd_mk (fun hC => (by have hr := Cd_ap iv_17 (by omega); omega)))) (by omega) (sf540) (sf541) ((PE_i (by omega) sf542)) ((PE_i (by omega) sf543)) ((LBd_nx iv_23 (by omega) (by omega) (by omega))) ((Cd_mk (fun hC => (gP1_nx (by omega) (Cd_ap sf544 (by omega)) (by have hr := Cd_ap p423 (by omega); omega) (by omega) (PL_su (Cd_ap sf545 (by omega)) (by omega) (by omega)) (Cd_ap sf546 (by omega)) (Cd_ap p534 (by omega)) (by omega) (by unfold pri; first | exact (if_pos (by omega)).symm | exact (if_neg (by omega)).symm)))))
        · have _q := h548
          exact absurd h548 (by omega)
      · have _q := h519
        refine jx_ld (pc' := 237) (l' := L461) (st' := [.int (i32 (0)), .ref 66]) rfl (jl_iloadn gL461_2) ?_
        refine jx_if_ne (pc' := 240) (tg := 255) rfl rfl rfl (by decide) (by decide) (fun h552 => ?_) (fun h552 => ?_)
        · have _q := h552
          exact absurd h552 (by omega)
        · have _q := h552
          refine jx_ld (pc' := 241) (l' := L461) (st' := [.ref 66, .ref 66]) rfl (jl_aloadn gL461_0) ?_
          refine jr_get (pc' := 244) (i := 34) (v := .ref 84) rfl rfl (by decide) rfl rfl ?_
          refine jx_ld (pc' := 245) (l' := L461) (st' := [.int (i32 (n)), .ref 84, .ref 66]) rfl (jl_iloadn gL461_1) ?_
          have b553 : (-2147483648 : Int) ≤ T0 17 (n).toNat ∧ T0 17 (n).toNat ≤ 2147483647 := hWT.2 17 _
          refine jr_ldv (pc' := 246) (i := 17) (m := 7000) (z := n) (y := T0 17 (n).toNat) rfl (by decide) rfl (by decide) (by omega) (by omega) rfl (show A493 17 (n).toNat = T0 17 (n).toNat from (congrFun ((hF497.2 17 rfl).trans ((hF468.2 17 rfl).trans (((congrFun eA448 17).trans (uA_ne (by decide))).trans (((congrFun eA435 17).trans (uA_ne (by decide))).trans ((hF417.2 17 rfl).trans ((hFx.2 17 rfl).trans (p_0 17 rfl))))))) _)) ?_
          refine jx_ar (pc' := 247) (st' := [.int (i32 (1)), .int (i32 (T0 17 (n).toNat)), .ref 66]) rfl rfl rfl rfl ?_
          refine jx_icmp_ne (pc' := 250) (tg := 255) rfl rfl rfl (Int.le_trans (by decide : (-2147483648 : Int) ≤ -2147483648) b553.1) (Int.le_trans b553.2 (by decide : (2147483647 : Int) ≤ 2147483647)) (by decide) (by decide) (fun h554 => ?_) (fun h554 => ?_)
          · have _q := h554
            refine jx_ar (pc' := 257) (st' := [.int (i32 (15)), .ref 66]) rfl rfl rfl rfl ?_
            refine jx_vr (pc' := 260) (as := [.int (i32 (15))]) (st := []) rfl rfl rfl rfl ⟨rfl, rfl, Nat.le_of_ble_eq_true rfl⟩ rfl rfl (c_op (dd := d) (hd := by omega) (hW := hW496) (oo := 15) (st := st2_494) (e_st := show G492 70 = st2_494 from (e499)) (lg := lg2_495) (e_lg := show G492 79 = lg2_495 from (e500))  (h_oo := ⟨(by decide), (by decide)⟩)  (p_0 := by omega) (p_1 := by omega)) (fun o V' hq => ?_)
            obtain ⟨G555, A556, st2_557, lg2_558, rfl, rfl, hW559, hF560, hQ561, e562, e563, p564, p565, p566, p567, p568, p569, -⟩ := hq
            have hF571 := Fr_tr hF508 hF560 (Fr_sub (by decide)) (Fr_sub (by decide))
            have hC572 := Fx_tr hC509 hQ561 (by omega)
            have hAl573 := Fx_f hAl510 hF560 (by decide)
            have hBp574 := Fx_f hBp511 hF560 (by decide)
            have sf575 := FA_fr (hF560.2 51 rfl) sf512
            have sf576 := SA_fr (hF560.2 13 rfl) sf513
            have sf577 : PE 56 (upf La i r414) (b6) ((i + 1)) A556 := PE_fr (hF560.2 56 rfl) sf514
            have sf578 : PE 57 (fL T0 F nw n) (b6) ((i + 1)) A556 := PE_fr (hF560.2 57 rfl) sf515
            have bst2_557 : (-2147483648 : Int) ≤ st2_557 ∧ st2_557 ≤ 2147483647 := e562 ▸ hW559.1 70
            have blg2_558 : (0 : Int) ≤ lg2_558 ∧ lg2_558 ≤ 1 := e563 ▸ hW559.1 79
            refine .inl ⟨rfl, ?_⟩
            have sf579 : Cd (lg2_558 = 0 ∧ lb2_466 < 19999) (gP1 T0 A556 (La) (n) ((i).toNat) (le) (st) (st1) (lb + 1) (lb1)) := Cd_mk (fun hC => gP1_mv (Cg_fx (l0 := lb + 1) (l1 := lb1) hQ561 (Fx_f (w := lb1 + 1) Fx_rf hF560 (by decide)) (by omega)) (by omega) (Cd_ap sf516 (by omega)))
            have sf580 : Cd (lg2_558 = 0 ∧ lb2_466 < 19999) (PL A556 (st1) (st2_464) (r414) (lb2_415) (lb2_466)) := Cd_mk (fun hC => PL_mv (Cg_fx (l0 := lb2_415) (l1 := lb2_466) hQ561 (Fx_f (w := lb2_466 + 1) Fx_rf hF560 (by decide)) (by omega)) (by omega) (Cd_ap sf517 (by omega)))
            have sf581 : Cd (lg2_558 = 0 ∧ lb2_466 < 19999) (ST A556 (st2_464) (st2_494) (1) (((fw1 - dp) - T0 26 (c).toNat) - fw1)) := Cd_mk (fun hC => ST_mv (Cg_fx (l0 := 0) (l1 := 0) hQ561 (Fx_f (w := 0 + 1) Fx_rf hF560 (by decide)) (by omega)) (by omega) (Cd_ap p506 (by omega)))
            have hBo582 : Cd (lg2_558 = 0 ∧ lb2_466 < 19999) (Fx [50] (lb + 1) A A556) := Cd_mk (fun hC => Fx_f (Cd_ap hBo518 (by omega)) hF560 (by decide))
            refine jx_ld (pc' := 261) (l' := L461) (st' := [.int (i32 (0))]) rfl (jl_iloadn gL461_2) ?_
            refine jx_if_eq (pc' := 264) (tg := 269) rfl rfl rfl (by decide) (by decide) (fun h583 => ?_) (fun h583 => ?_)
            · have _q := h583
              refine jx_ld (pc' := 270) (l' := L461) (st' := [.ref 66]) rfl (jl_aloadn gL461_0) ?_
              refine jr_get (pc' := 273) (i := 39) (v := .ref 89) rfl rfl (by decide) rfl rfl ?_
              refine jx_ld (pc' := 275) (l' := L461) (st' := [.int (i32 (c)), .ref 89]) rfl (jl_iload gL461_8) ?_
              have b584 : (-2147483648 : Int) ≤ T0 22 (c).toNat ∧ T0 22 (c).toNat ≤ 2147483647 := hWT.2 22 _
              refine jr_ldv (pc' := 276) (i := 22) (m := 7000) (z := c) (y := T0 22 (c).toNat) rfl (by decide) rfl (by decide) (by omega) (by omega) rfl (show A556 22 (c).toNat = T0 22 (c).toNat from (congrFun ((hF560.2 22 rfl).trans ((hF497.2 22 rfl).trans ((hF468.2 22 rfl).trans (((congrFun eA448 22).trans (uA_ne (by decide))).trans (((congrFun eA435 22).trans (uA_ne (by decide))).trans ((hF417.2 22 rfl).trans ((hFx.2 22 rfl).trans (p_0 22 rfl)))))))) _)) ?_
              refine jx_ld (pc' := 278) (l' := jSto1 L461 8 (.int (i32 (T0 22 (c).toNat)))) (st' := []) rfl rfl ?_
              obtain ⟨L585, eL585⟩ : ∃ q, q = jSto1 L461 8 (.int (i32 (T0 22 (c).toNat))) := ⟨_, rfl⟩
              rw [← eL585]
              have gL585_0 : jGet L585 0 = some (.ref 66) := eL585 ▸ jg_ne (by decide) gL461_0 rfl
              have gL585_1 : jGet L585 1 = some (.int (i32 (n))) := eL585 ▸ jg_ne (by decide) gL461_1 rfl
              have gL585_2 : jGet L585 2 = some (.int (i32 (0))) := eL585 ▸ jg_ne (by decide) gL461_2 rfl
              have gL585_3 : jGet L585 3 = some (.int (i32 (w))) := eL585 ▸ jg_ne (by decide) gL461_3 rfl
              have gL585_4 : jGet L585 4 = some (.int (i32 (mn))) := eL585 ▸ jg_ne (by decide) gL461_4 rfl
              have gL585_5 : jGet L585 5 = some (.int (i32 (le))) := eL585 ▸ jg_ne (by decide) gL461_5 rfl
              have gL585_6 : jGet L585 6 = some (.int (i32 (b6))) := eL585 ▸ jg_ne (by decide) gL461_6 rfl
              have gL585_9 : jGet L585 9 = some (.int (i32 (i))) := eL585 ▸ jg_ne (by decide) gL461_9 rfl
              have gL585_7 : jGet L585 7 = some (.int (i32 ((((dp + T0 26 (c).toNat) + T0 27 (c).toNat) + 3)))) := eL585 ▸ jg_ne (by decide) gL461_7 rfl
              have gL585_8 : jGet L585 8 = some (.int (i32 (T0 22 (c).toNat))) := eL585 ▸ jg_eq
              refine jx_inc (pc' := 281) (l' := jSto1 L585 9 (.int (i32 ((i + (1)))))) (x := i) rfl gL585_9 (by decide) rfl rfl ?_
              obtain ⟨L586, eL586⟩ : ∃ q, q = jSto1 L585 9 (.int (i32 ((i + (1))))) := ⟨_, rfl⟩
              rw [← eL586]
              have gL586_0 : jGet L586 0 = some (.ref 66) := eL586 ▸ jg_ne (by decide) gL585_0 rfl
              have gL586_1 : jGet L586 1 = some (.int (i32 (n))) := eL586 ▸ jg_ne (by decide) gL585_1 rfl
              have gL586_2 : jGet L586 2 = some (.int (i32 (0))) := eL586 ▸ jg_ne (by decide) gL585_2 rfl
              have gL586_3 : jGet L586 3 = some (.int (i32 (w))) := eL586 ▸ jg_ne (by decide) gL585_3 rfl
              have gL586_4 : jGet L586 4 = some (.int (i32 (mn))) := eL586 ▸ jg_ne (by decide) gL585_4 rfl
              have gL586_5 : jGet L586 5 = some (.int (i32 (le))) := eL586 ▸ jg_ne (by decide) gL585_5 rfl
              have gL586_6 : jGet L586 6 = some (.int (i32 (b6))) := eL586 ▸ jg_ne (by decide) gL585_6 rfl
              have gL586_7 : jGet L586 7 = some (.int (i32 ((((dp + T0 26 (c).toNat) + T0 27 (c).toNat) + 3)))) := eL586 ▸ jg_ne (by decide) gL585_7 rfl
              have gL586_8 : jGet L586 8 = some (.int (i32 (T0 22 (c).toNat))) := eL586 ▸ jg_ne (by decide) gL585_8 rfl
              have gL586_9 : jGet L586 9 = some (.int (i32 ((i + (1))))) := eL586 ▸ jg_eq
              refine jx_go (tg := 118) rfl rfl ?_
              exact ih118_0 _ (by omega) L586 G555 A556 (w) (mn) (le) (b6) ((((dp + T0 26 (c).toNat) + T0 27 (c).toNat) + 3)) (T0 22 (c).toNat) ((i + (1))) (st2_557) (lg2_558) (lb2_466) (fw1) ((upf La i r414)) rfl gL586_0 gL586_1 gL586_2 gL586_3 gL586_4 gL586_5 gL586_6 gL586_7 gL586_8 gL586_9 hW559 hF571 hC572 hAl573 hBp574 (Cd_mk (fun hC => Cd_ap hBo582 (by omega))) ((e562)) ((e563)) (((hF560.1 77 rfl).trans ((hF497.1 77 rfl).trans (e472)))) ((congrFun ((hF560.2 51 rfl).trans ((hF497.2 51 rfl).trans ((hF468.2 51 rfl).trans (((congrFun eA448 51).trans (uA_ne (by decide))).trans (((congrFun eA435 51).trans (uA_ne (by decide))).trans (hF417.2 51 rfl)))))) _).trans (ex_fw1)) (((hF560.1 81 rfl).trans ((hF497.1 81 rfl).trans ((hF468.1 81 rfl).trans ((hF417.1 81 rfl).trans (fx_81)))))) (((hF560.1 89 rfl).trans ((hF497.1 89 rfl).trans ((hF468.1 89 rfl).trans ((hF417.1 89 rfl).trans (fx_89)))))) (by omega) (by omega) (by omega) (by omega) (by omega) (by omega) (by omega) (by omega) (by omega) (by omega) (by omega) (by omega) ((Cd_mk (fun hC => by have := Cd_ap iv_5 (by omega); omega))) (by omega) (by omega) (by omega) (by omega) (by omega) (by omega) (by omega) (by omega) (by omega) (by omega) (by omega) ((Cd_mk (fun hC => (by have hr := Cd_ap iv_17 (by omega); omega)))) (by omega) (sf575) (sf576) ((PE_i (by omega) sf577)) ((PE_i (by omega) sf578)) ((LBd_nx iv_23 (by omega) (by omega) (by omega))) ((Cd_mk (fun hC => (gP1_nx (by omega) (Cd_ap sf579 (by omega)) (by have hr := Cd_ap p423 (by omega); omega) (by omega) (PL_su (Cd_ap sf580 (by omega)) (by omega) (by omega)) (Cd_ap sf581 (by omega)) (Cd_ap p569 (by omega)) (by omega) (by unfold pri; first | exact (if_pos (by omega)).symm | exact (if_neg (by omega)).symm)))))
            · have _q := h583
              exact absurd h583 (by omega)
          · have _q := h554
            refine jx_ar (pc' := 252) (st' := [.int (i32 (16)), .ref 66]) rfl rfl rfl rfl ?_
            refine jx_go (tg := 257) rfl rfl ?_
            refine jx_vr (pc' := 260) (as := [.int (i32 (16))]) (st := []) rfl rfl rfl rfl ⟨rfl, rfl, Nat.le_of_ble_eq_true rfl⟩ rfl rfl (c_op (dd := d) (hd := by omega) (hW := hW496) (oo := 16) (st := st2_494) (e_st := show G492 70 = st2_494 from (e499)) (lg := lg2_495) (e_lg := show G492 79 = lg2_495 from (e500))  (h_oo := ⟨(by decide), (by decide)⟩)  (p_0 := by omega) (p_1 := by omega)) (fun o V' hq => ?_)
            obtain ⟨G587, A588, st2_589, lg2_590, rfl, rfl, hW591, hF592, hQ593, e594, e595, p596, p597, p598, p599, p600, p601, -⟩ := hq
            have hF603 := Fr_tr hF508 hF592 (Fr_sub (by decide)) (Fr_sub (by decide))
            have hC604 := Fx_tr hC509 hQ593 (by omega)
            have hAl605 := Fx_f hAl510 hF592 (by decide)
            have hBp606 := Fx_f hBp511 hF592 (by decide)
            have sf607 := FA_fr (hF592.2 51 rfl) sf512
            have sf608 := SA_fr (hF592.2 13 rfl) sf513
            have sf609 : PE 56 (upf La i r414) (b6) ((i + 1)) A588 := PE_fr (hF592.2 56 rfl) sf514
            have sf610 : PE 57 (fL T0 F nw n) (b6) ((i + 1)) A588 := PE_fr (hF592.2 57 rfl) sf515
            have bst2_589 : (-2147483648 : Int) ≤ st2_589 ∧ st2_589 ≤ 2147483647 := e594 ▸ hW591.1 70
            have blg2_590 : (0 : Int) ≤ lg2_590 ∧ lg2_590 ≤ 1 := e595 ▸ hW591.1 79
            refine .inl ⟨rfl, ?_⟩
            have sf611 : Cd (lg2_590 = 0 ∧ lb2_466 < 19999) (gP1 T0 A588 (La) (n) ((i).toNat) (le) (st) (st1) (lb + 1) (lb1)) := Cd_mk (fun hC => gP1_mv (Cg_fx (l0 := lb + 1) (l1 := lb1) hQ593 (Fx_f (w := lb1 + 1) Fx_rf hF592 (by decide)) (by omega)) (by omega) (Cd_ap sf516 (by omega)))
            have sf612 : Cd (lg2_590 = 0 ∧ lb2_466 < 19999) (PL A588 (st1) (st2_464) (r414) (lb2_415) (lb2_466)) := Cd_mk (fun hC => PL_mv (Cg_fx (l0 := lb2_415) (l1 := lb2_466) hQ593 (Fx_f (w := lb2_466 + 1) Fx_rf hF592 (by decide)) (by omega)) (by omega) (Cd_ap sf517 (by omega)))
            have sf613 : Cd (lg2_590 = 0 ∧ lb2_466 < 19999) (ST A588 (st2_464) (st2_494) (1) (((fw1 - dp) - T0 26 (c).toNat) - fw1)) := Cd_mk (fun hC => ST_mv (Cg_fx (l0 := 0) (l1 := 0) hQ593 (Fx_f (w := 0 + 1) Fx_rf hF592 (by decide)) (by omega)) (by omega) (Cd_ap p506 (by omega)))
            have hBo614 : Cd (lg2_590 = 0 ∧ lb2_466 < 19999) (Fx [50] (lb + 1) A A588) := Cd_mk (fun hC => Fx_f (Cd_ap hBo518 (by omega)) hF592 (by decide))
            refine jx_ld (pc' := 261) (l' := L461) (st' := [.int (i32 (0))]) rfl (jl_iloadn gL461_2) ?_
            refine jx_if_eq (pc' := 264) (tg := 269) rfl rfl rfl (by decide) (by decide) (fun h615 => ?_) (fun h615 => ?_)
            · have _q := h615
              refine jx_ld (pc' := 270) (l' := L461) (st' := [.ref 66]) rfl (jl_aloadn gL461_0) ?_
              refine jr_get (pc' := 273) (i := 39) (v := .ref 89) rfl rfl (by decide) rfl rfl ?_
              refine jx_ld (pc' := 275) (l' := L461) (st' := [.int (i32 (c)), .ref 89]) rfl (jl_iload gL461_8) ?_
              have b616 : (-2147483648 : Int) ≤ T0 22 (c).toNat ∧ T0 22 (c).toNat ≤ 2147483647 := hWT.2 22 _
              refine jr_ldv (pc' := 276) (i := 22) (m := 7000) (z := c) (y := T0 22 (c).toNat) rfl (by decide) rfl (by decide) (by omega) (by omega) rfl (show A588 22 (c).toNat = T0 22 (c).toNat from (congrFun ((hF592.2 22 rfl).trans ((hF497.2 22 rfl).trans ((hF468.2 22 rfl).trans (((congrFun eA448 22).trans (uA_ne (by decide))).trans (((congrFun eA435 22).trans (uA_ne (by decide))).trans ((hF417.2 22 rfl).trans ((hFx.2 22 rfl).trans (p_0 22 rfl)))))))) _)) ?_
              refine jx_ld (pc' := 278) (l' := jSto1 L461 8 (.int (i32 (T0 22 (c).toNat)))) (st' := []) rfl rfl ?_
              obtain ⟨L617, eL617⟩ : ∃ q, q = jSto1 L461 8 (.int (i32 (T0 22 (c).toNat))) := ⟨_, rfl⟩
              rw [← eL617]
              have gL617_0 : jGet L617 0 = some (.ref 66) := eL617 ▸ jg_ne (by decide) gL461_0 rfl
              have gL617_1 : jGet L617 1 = some (.int (i32 (n))) := eL617 ▸ jg_ne (by decide) gL461_1 rfl
              have gL617_2 : jGet L617 2 = some (.int (i32 (0))) := eL617 ▸ jg_ne (by decide) gL461_2 rfl
              have gL617_3 : jGet L617 3 = some (.int (i32 (w))) := eL617 ▸ jg_ne (by decide) gL461_3 rfl
              have gL617_4 : jGet L617 4 = some (.int (i32 (mn))) := eL617 ▸ jg_ne (by decide) gL461_4 rfl
              have gL617_5 : jGet L617 5 = some (.int (i32 (le))) := eL617 ▸ jg_ne (by decide) gL461_5 rfl
              have gL617_6 : jGet L617 6 = some (.int (i32 (b6))) := eL617 ▸ jg_ne (by decide) gL461_6 rfl
              have gL617_9 : jGet L617 9 = some (.int (i32 (i))) := eL617 ▸ jg_ne (by decide) gL461_9 rfl
              have gL617_7 : jGet L617 7 = some (.int (i32 ((((dp + T0 26 (c).toNat) + T0 27 (c).toNat) + 3)))) := eL617 ▸ jg_ne (by decide) gL461_7 rfl
              have gL617_8 : jGet L617 8 = some (.int (i32 (T0 22 (c).toNat))) := eL617 ▸ jg_eq
              refine jx_inc (pc' := 281) (l' := jSto1 L617 9 (.int (i32 ((i + (1)))))) (x := i) rfl gL617_9 (by decide) rfl rfl ?_
              obtain ⟨L618, eL618⟩ : ∃ q, q = jSto1 L617 9 (.int (i32 ((i + (1))))) := ⟨_, rfl⟩
              rw [← eL618]
              have gL618_0 : jGet L618 0 = some (.ref 66) := eL618 ▸ jg_ne (by decide) gL617_0 rfl
              have gL618_1 : jGet L618 1 = some (.int (i32 (n))) := eL618 ▸ jg_ne (by decide) gL617_1 rfl
              have gL618_2 : jGet L618 2 = some (.int (i32 (0))) := eL618 ▸ jg_ne (by decide) gL617_2 rfl
              have gL618_3 : jGet L618 3 = some (.int (i32 (w))) := eL618 ▸ jg_ne (by decide) gL617_3 rfl
              have gL618_4 : jGet L618 4 = some (.int (i32 (mn))) := eL618 ▸ jg_ne (by decide) gL617_4 rfl
              have gL618_5 : jGet L618 5 = some (.int (i32 (le))) := eL618 ▸ jg_ne (by decide) gL617_5 rfl
              have gL618_6 : jGet L618 6 = some (.int (i32 (b6))) := eL618 ▸ jg_ne (by decide) gL617_6 rfl
              have gL618_7 : jGet L618 7 = some (.int (i32 ((((dp + T0 26 (c).toNat) + T0 27 (c).toNat) + 3)))) := eL618 ▸ jg_ne (by decide) gL617_7 rfl
              have gL618_8 : jGet L618 8 = some (.int (i32 (T0 22 (c).toNat))) := eL618 ▸ jg_ne (by decide) gL617_8 rfl
              have gL618_9 : jGet L618 9 = some (.int (i32 ((i + (1))))) := eL618 ▸ jg_eq
              refine jx_go (tg := 118) rfl rfl ?_
              exact ih118_0 _ (by omega) L618 G587 A588 (w) (mn) (le) (b6) ((((dp + T0 26 (c).toNat) + T0 27 (c).toNat) + 3)) (T0 22 (c).toNat) ((i + (1))) (st2_589) (lg2_590) (lb2_466) (fw1) ((upf La i r414)) rfl gL618_0 gL618_1 gL618_2 gL618_3 gL618_4 gL618_5 gL618_6 gL618_7 gL618_8 gL618_9 hW591 hF603 hC604 hAl605 hBp606 (Cd_mk (fun hC => Cd_ap hBo614 (by omega))) ((e594)) ((e595)) (((hF592.1 77 rfl).trans ((hF497.1 77 rfl).trans (e472)))) ((congrFun ((hF592.2 51 rfl).trans ((hF497.2 51 rfl).trans ((hF468.2 51 rfl).trans (((congrFun eA448 51).trans (uA_ne (by decide))).trans (((congrFun eA435 51).trans (uA_ne (by decide))).trans (hF417.2 51 rfl)))))) _).trans (ex_fw1)) (((hF592.1 81 rfl).trans ((hF497.1 81 rfl).trans ((hF468.1 81 rfl).trans ((hF417.1 81 rfl).trans (fx_81)))))) (((hF592.1 89 rfl).trans ((hF497.1 89 rfl).trans ((hF468.1 89 rfl).trans ((hF417.1 89 rfl).trans (fx_89)))))) (by omega) (by omega) (by omega) (by omega) (by omega) (by omega) (by omega) (by omega) (by omega) (by omega) (by omega) (by omega) ((Cd_mk (fun hC => by have := Cd_ap iv_5 (by omega); omega))) (by omega) (by omega) (by omega) (by omega) (by omega) (by omega) (by omega) (by omega) (by omega) (by omega) (by omega) ((Cd_mk (fun hC => (by have hr := Cd_ap iv_17 (by omega); omega)))) (by omega) (sf607) (sf608) ((PE_i (by omega) sf609)) ((PE_i (by omega) sf610)) ((LBd_nx iv_23 (by omega) (by omega) (by omega))) ((Cd_mk (fun hC => (gP1_nx (by omega) (Cd_ap sf611 (by omega)) (by have hr := Cd_ap p423 (by omega); omega) (by omega) (PL_su (Cd_ap sf612 (by omega)) (by omega) (by omega)) (Cd_ap sf613 (by omega)) (Cd_ap p601 (by omega)) (by omega) (by unfold pri; first | exact (if_pos (by omega)).symm | exact (if_neg (by omega)).symm)))))
            · have _q := h615
              exact absurd h615 (by omega)
set_option maxRecDepth 20000 in
set_option maxHeartbeats 4000000 in
theorem c_genPar_at_118_1 {X : jX} {k : Nat} (hN : GN X k) {d : Nat} {T0 : Nat → Nat → Int} {Q F Sn : Int → Int} {Vs : Nat → Prop} {sb pb : Int} {c0 c1 : jC} {G : Nat → Int} {A : Nat → Nat → Int} {T : jH} {n : Int} {hi s0 s1 D bd : Int} {st lg lb nw al fw : Int} (hd : 2 * k + 63 ≤ d + 1) (hW : Wk G A) (e_st : G 70 = st) (e_lg : G 79 = lg) (e_lb : G 77 = lb) (e_nw : G 81 = nw) (e_al : G 89 = al) (e_fw : A 51 (nw).toNat = fw) (h_n : (-2147483648 : Int) ≤ n ∧ n ≤ 2147483647) (p_0 : TA T0 A) (p_1 : FA F (nw) A) (p_2 : SA T0 Vs Sn A) (p_3 : VW T0 Vs (nw)) (p_4 : 0 ≤ nw) (p_5 : nw + (k : Int) + 1 ≤ 38) (p_6 : 0 ≤ al) (p_7 : al + (k : Int) + 1 ≤ 38) (p_8 : 0 ≤ st) (p_9 : st ≤ 7000) (p_10 : 0 ≤ lb) (p_11 : lb + bd + 7000 - st ≤ 1900000000) (p_12 : hi ≤ 6999) (p_13 : sb ≤ 202) (p_14 : 0 ≤ n) (p_15 : n < hi) (p_16 : 0 ≤ s0) (p_17 : s1 ≤ sb) (p_18 : KD T0 sb pb k Vs (n) (hi) (s0) (s1) (nw) (D)) (p_19 : VB (Vs) (s0)) (p_20 : T0 15 (n).toNat = 28 ∨ T0 15 (n).toNat = 29) (p_21 : 0 ≤ T0 25 (n).toNat) (p_22 : T0 25 (n).toNat + 3 ≤ 4000) (p_23 : WB (n) (hi) (bd)) (p_24 : 0 ≤ D) (p_25 : D ≤ 4000) (p_26 : -4000 ≤ fw - D) (p_27 : fw ≤ 0) (p_28 : pb ≤ 24) (p_29 : PV T0 pb) (p_30 : PA Q pb A) : ∀ (m : Nat) (L : jL) (Gx : Nat → Int) (Ax : Nat → Nat → Int) (w mn le b6 dp c i st1 lg1 lb1 fw1 : Int) (La : Int → Int), (mn - i).toNat = m → jGet L 0 = some (.ref 66) → jGet L 1 = some (.int (i32 (n))) → jGet L 2 = some (.int (i32 (1))) → jGet L 3 = some (.int (i32 w)) → jGet L 4 = some (.int (i32 mn)) → jGet L 5 = some (.int (i32 le)) → jGet L 6 = some (.int (i32 b6)) → jGet L 7 = some (.int (i32 dp)) → jGet L 8 = some (.int (i32 c)) → jGet L 9 = some (.int (i32 i)) → Wk Gx Ax → Fr [70, 77, 79, 81, 89] [13, 44, 45, 46, 47, 50, 51, 56, 57, 58] G A Gx Ax → Fx [44, 45, 46, 47] (st) A Ax → Fx [58] (8 * al) A Ax → Fx [56, 57] (8 * nw) A Ax → Cd (lg1 = 0 ∧ lb1 < 19999) (Fx [50] (lb + 1) A Ax) → Gx 70 = st1 → Gx 79 = lg1 → Gx 77 = lb1 → Ax 51 (nw).toNat = fw1 → Gx 81 = nw → Gx 89 = al → ((-2147483648 : Int) ≤ w ∧ w ≤ 2147483647) → ((-2147483648 : Int) ≤ mn ∧ mn ≤ 2147483647) → ((-2147483648 : Int) ≤ le ∧ le ≤ 2147483647) → ((-2147483648 : Int) ≤ b6 ∧ b6 ≤ 2147483647) → ((-2147483648 : Int) ≤ dp ∧ dp ≤ 2147483647) → ((-2147483648 : Int) ≤ c ∧ c ≤ 2147483647) → ((-2147483648 : Int) ≤ i ∧ i ≤ 2147483647) → (st ≤ st1) → (st1 ≤ 7000) → (lg ≤ lg1) → (lg1 ≤ 1) → (lb + 2 ≤ lb1) → (Cd (lg1 = 0) (lb1 - lb ≤ st1 - st)) → (lb1 - lb ≤ 2 + 2 * i) → (w = T0 25 (n).toNat) → (mn = T0 20 (n).toNat) → (b6 = 8 * nw) → (dp = dpt T0 n (i).toNat) → (c = kid T0 n (i).toNat) → (0 ≤ i) → (i ≤ mn) → (fw1 = fw) → (1 ≤ le) → (le ≤ 19999) → (Cd (lb1 < 20000) (le = lb + 1)) → (T0 15 (n).toNat = 29) → (FA F (nw) Ax) → (SA T0 Vs Sn Ax) → (PE 56 (La) (b6) (i) Ax) → (PE 57 (fL T0 F nw n) (b6) (i) Ax) → (LBd (La) (i)) → (Cd (lg1 = 0 ∧ lb1 < 19999) (gP1 T0 Ax (La) (n) ((i).toNat) (le) (st) (st1) (lb + 1) (lb1))) → wj X d jm358 (118, L, [], rV c0 c1 Gx Ax T) (fun o V' => ∃ (G' : Nat → Int) (A' : Nat → Nat → Int) (st2 : Int) (lg2 : Int) (lb2 : Int) (nw2 : Int) (al2 : Int) (fw2 : Int), V' = rV c0 c1 G' A' T ∧ o = .inl none ∧ Wk G' A' ∧ Fr [70, 77, 79, 81, 89] [13, 44, 45, 46, 47, 50, 51, 56, 57, 58] G A G' A' ∧ Fx [44, 45, 46, 47] (st) A A' ∧ Fx [58] (8 * al) A A' ∧ Fx [56, 57] (8 * nw) A A' ∧ G' 70 = st2 ∧ G' 79 = lg2 ∧ G' 77 = lb2 ∧ G' 81 = nw2 ∧ G' 89 = al2 ∧ A' 51 (nw).toNat = fw2 ∧ (st ≤ st2) ∧ (st2 ≤ 7000) ∧ (lg ≤ lg2) ∧ (lg2 ≤ 1) ∧ (lb ≤ lb2) ∧ (Cd (lg2 = 0) (lb2 - lb ≤ st2 - st)) ∧ (lb2 - lb ≤ st2 - st + bd) ∧ (Cd (lg2 = 0 ∧ lb2 < 19999) (Fx [50] (lb + 1) A A')) ∧ (nw2 = nw) ∧ (al2 = al) ∧ (fw2 = fw) ∧ (FA F (nw) A') ∧ (SA T0 Vs Sn A') ∧ (Cd (lg2 = 0 ∧ lb2 < 19999) (gPa T0 A' (gP T0 A' Q k) F Sn nw (n) (st) (st2) (lb) (lb2))) ∧ True) := by
  have hF0 : Fr [70, 77, 79, 81, 89] [13, 44, 45, 46, 47, 50, 51, 56, 57, 58] G A G A := Fr_rf
  have hC0 : Fx [44, 45, 46, 47] (st) A A := Fx_rf
  have hAl0 : Fx [58] (8 * al) A A := Fx_rf
  have hBp0 : Fx [56, 57] (8 * nw) A A := Fx_rf
  have b_st : (-2147483648 : Int) ≤ st ∧ st ≤ 2147483647 := e_st ▸ hW.1 70
  have b_lg : (0 : Int) ≤ lg ∧ lg ≤ 1 := e_lg ▸ hW.1 79
  have b_lb : (-2147483648 : Int) ≤ lb ∧ lb ≤ 2147483647 := e_lb ▸ hW.1 77
  have b_nw : (-2147483648 : Int) ≤ nw ∧ nw ≤ 2147483647 := e_nw ▸ hW.1 81
  have b_al : (-2147483648 : Int) ≤ al ∧ al ≤ 2147483647 := e_al ▸ hW.1 89
  have b_fw : (-2147483648 : Int) ≤ fw ∧ fw ≤ 2147483647 := e_fw ▸ hW.2 51 _
  have hWT := TA_w hW p_0
  have hBo0 : Cd (lg = 0 ∧ lb < 19999) (Fx [50] (lb + 1) A A) := Cd_mk (fun _ => Fx_rf)
  have hfw := FA_at p_1 p_4 e_fw
  obtain ⟨hk1, hk2, hk3, hk4⟩ := p_18
  have hbp := WB_p p_23 (by omega) (by omega) (by omega)
  intro m
  induction m using Nat.strongRecOn with
  | ind m ih118_1 =>
    intro L Gx Ax w mn le b6 dp c i st1 lg1 lb1 fw1 La hm gL_0 gL_1 gL_2 gL_3 gL_4 gL_5 gL_6 gL_7 gL_8 gL_9 hWx hFx hCx hAlx hBpx hBox ex_st1 ex_lg1 ex_lb1 ex_fw1 fx_81 fx_89 rx_w rx_mn rx_le rx_b6 rx_dp rx_c rx_i iv_0 iv_1 iv_2 iv_3 iv_4 iv_5 iv_6 iv_7 iv_8 iv_9 iv_10 iv_11 iv_12 iv_13 iv_14 iv_15 iv_16 iv_17 iv_18 iv_19 iv_20 iv_21 iv_22 iv_23 iv_24
    have b_st1 : (-2147483648 : Int) ≤ st1 ∧ st1 ≤ 2147483647 := ex_st1 ▸ hWx.1 70
    have b_lg1 : (0 : Int) ≤ lg1 ∧ lg1 ≤ 1 := ex_lg1 ▸ hWx.1 79
    have b_lb1 : (-2147483648 : Int) ≤ lb1 ∧ lb1 ≤ 2147483647 := ex_lb1 ▸ hWx.1 77
    have hmy : mny T0 n = T0 20 (n).toNat := if_pos (by omega)
    refine jx_ld (pc' := 120) (l' := L) (st' := [.int (i32 (i))]) rfl (jl_iload gL_9) ?_
    refine jx_ld (pc' := 122) (l' := L) (st' := [.int (i32 (mn)), .int (i32 (i))]) rfl (jl_iload gL_4) ?_
    refine jx_icmp_ge (pc' := 125) (tg := 284) rfl rfl rfl (Int.le_trans (by decide : (-2147483648 : Int) ≤ -2147483648) rx_i.1) (Int.le_trans rx_i.2 (by decide : (2147483647 : Int) ≤ 2147483647)) (Int.le_trans (by decide : (-2147483648 : Int) ≤ -2147483648) rx_mn.1) (Int.le_trans rx_mn.2 (by decide : (2147483647 : Int) ≤ 2147483647)) (fun h619 => ?_) (fun h619 => ?_)
    · have _q := h619
      refine jx_ld (pc' := 285) (l' := L) (st' := [.ref 66]) rfl (jl_aloadn gL_0) ?_
      refine jx_ar (pc' := 287) (st' := [.int (i32 (18)), .ref 66]) rfl rfl rfl rfl ?_
      refine jx_vr (pc' := 290) (as := [.int (i32 (18))]) (st := []) rfl rfl rfl rfl ⟨rfl, rfl, Nat.le_of_ble_eq_true rfl⟩ rfl rfl (c_op (dd := d) (hd := by omega) (hW := hWx) (oo := 18) (st := st1) (e_st := show Gx 70 = st1 from (ex_st1)) (lg := lg1) (e_lg := show Gx 79 = lg1 from (ex_lg1))  (h_oo := ⟨(by decide), (by decide)⟩)  (p_0 := by omega) (p_1 := by omega)) (fun o V' hq => ?_)
      obtain ⟨G620, A621, st2_622, lg2_623, rfl, rfl, hW624, hF625, hQ626, e627, e628, p629, p630, p631, p632, p633, p634, -⟩ := hq
      have hF636 := Fr_tr hFx hF625 (Fr_sub (by decide)) (Fr_sub (by decide))
      have hC637 := Fx_tr hCx hQ626 (by omega)
      have hAl638 := Fx_f hAlx hF625 (by decide)
      have hBp639 := Fx_f hBpx hF625 (by decide)
      have sf640 := FA_fr (hF625.2 51 rfl) iv_19
      have sf641 := SA_fr (hF625.2 13 rfl) iv_20
      have sf642 : PE 56 (La) (b6) (i) A621 := PE_fr (hF625.2 56 rfl) iv_21
      have sf643 : PE 57 (fL T0 F nw n) (b6) (i) A621 := PE_fr (hF625.2 57 rfl) iv_22
      have bst2_622 : (-2147483648 : Int) ≤ st2_622 ∧ st2_622 ≤ 2147483647 := e627 ▸ hW624.1 70
      have blg2_623 : (0 : Int) ≤ lg2_623 ∧ lg2_623 ≤ 1 := e628 ▸ hW624.1 79
      refine .inl ⟨rfl, ?_⟩
      have sf644 : Cd (lg2_623 = 0 ∧ lb1 < 19999) (gP1 T0 A621 (La) (n) ((i).toNat) (le) (st) (st1) (lb + 1) (lb1)) := Cd_mk (fun hC => gP1_mv (Cg_fx (l0 := lb + 1) (l1 := lb1) hQ626 (Fx_f (w := lb1 + 1) Fx_rf hF625 (by decide)) (by omega)) (by omega) (Cd_ap iv_24 (by omega)))
      have hBo645 : Cd (lg2_623 = 0 ∧ lb1 < 19999) (Fx [50] (lb + 1) A A621) := Cd_mk (fun hC => Fx_f (Cd_ap hBox (by omega)) hF625 (by decide))
      refine jx_ld (pc' := 291) (l' := L) (st' := [.ref 66]) rfl (jl_aloadn gL_0) ?_
      refine jr_get (pc' := 294) (i := 80) (v := .ref 118) rfl rfl (by decide) rfl rfl ?_
      refine jx_ld (pc' := 295) (l' := L) (st' := [.ref 66, .ref 118]) rfl (jl_aloadn gL_0) ?_
      refine jr_get (pc' := 298) (i := 81) (v := .int (i32 (nw))) rfl rfl (by decide) (rFv_eq (by decide) (show G620 81 = nw from ((hF625.1 81 rfl).trans (fx_81)))) rfl ?_
      refine jr_ldv (pc' := 299) (i := 51) (m := 40) (z := nw) (y := fw1) rfl (by decide) rfl (by decide) (by omega) (by omega) rfl (show A621 51 (nw).toNat = fw1 from (congrFun (hF625.2 51 rfl) _).trans (ex_fw1)) ?_
      refine jx_ld (pc' := 301) (l' := jSto1 L 9 (.int (i32 (fw1)))) (st' := []) rfl rfl ?_
      obtain ⟨L646, eL646⟩ : ∃ q, q = jSto1 L 9 (.int (i32 (fw1))) := ⟨_, rfl⟩
      rw [← eL646]
      have gL646_0 : jGet L646 0 = some (.ref 66) := eL646 ▸ jg_ne (by decide) gL_0 rfl
      have gL646_1 : jGet L646 1 = some (.int (i32 (n))) := eL646 ▸ jg_ne (by decide) gL_1 rfl
      have gL646_2 : jGet L646 2 = some (.int (i32 (1))) := eL646 ▸ jg_ne (by decide) gL_2 rfl
      have gL646_3 : jGet L646 3 = some (.int (i32 (w))) := eL646 ▸ jg_ne (by decide) gL_3 rfl
      have gL646_4 : jGet L646 4 = some (.int (i32 (mn))) := eL646 ▸ jg_ne (by decide) gL_4 rfl
      have gL646_5 : jGet L646 5 = some (.int (i32 (le))) := eL646 ▸ jg_ne (by decide) gL_5 rfl
      have gL646_6 : jGet L646 6 = some (.int (i32 (b6))) := eL646 ▸ jg_ne (by decide) gL_6 rfl
      have gL646_7 : jGet L646 7 = some (.int (i32 (dp))) := eL646 ▸ jg_ne (by decide) gL_7 rfl
      have gL646_8 : jGet L646 8 = some (.int (i32 (c))) := eL646 ▸ jg_ne (by decide) gL_8 rfl
      have gL646_9 : jGet L646 9 = some (.int (i32 (fw1))) := eL646 ▸ jg_eq
      have hmy : mny T0 n = T0 20 (n).toNat := if_pos (by omega); have hk0 : kid T0 n (0 : Int).toNat = T0 21 (n).toNat := kid_29 (by omega); have hd0 : dpt T0 n (0 : Int).toNat = 3 := rfl
      refine jx_ld (pc' := 302) (l' := L646) (st' := [.ref 66]) rfl (jl_aloadn gL646_0) ?_
      refine jr_get (pc' := 305) (i := 38) (v := .ref 88) rfl rfl (by decide) rfl rfl ?_
      refine jx_ld (pc' := 306) (l' := L646) (st' := [.int (i32 (n)), .ref 88]) rfl (jl_iloadn gL646_1) ?_
      have b647 : (-2147483648 : Int) ≤ T0 21 (n).toNat ∧ T0 21 (n).toNat ≤ 2147483647 := hWT.2 21 _
      refine jr_ldv (pc' := 307) (i := 21) (m := 7000) (z := n) (y := T0 21 (n).toNat) rfl (by decide) rfl (by decide) (by omega) (by omega) rfl (show A621 21 (n).toNat = T0 21 (n).toNat from (congrFun ((hF625.2 21 rfl).trans ((hFx.2 21 rfl).trans (p_0 21 rfl))) _)) ?_
      refine jx_ld (pc' := 309) (l' := jSto1 L646 8 (.int (i32 (T0 21 (n).toNat)))) (st' := []) rfl rfl ?_
      obtain ⟨L648, eL648⟩ : ∃ q, q = jSto1 L646 8 (.int (i32 (T0 21 (n).toNat))) := ⟨_, rfl⟩
      rw [← eL648]
      have gL648_0 : jGet L648 0 = some (.ref 66) := eL648 ▸ jg_ne (by decide) gL646_0 rfl
      have gL648_1 : jGet L648 1 = some (.int (i32 (n))) := eL648 ▸ jg_ne (by decide) gL646_1 rfl
      have gL648_2 : jGet L648 2 = some (.int (i32 (1))) := eL648 ▸ jg_ne (by decide) gL646_2 rfl
      have gL648_3 : jGet L648 3 = some (.int (i32 (w))) := eL648 ▸ jg_ne (by decide) gL646_3 rfl
      have gL648_4 : jGet L648 4 = some (.int (i32 (mn))) := eL648 ▸ jg_ne (by decide) gL646_4 rfl
      have gL648_5 : jGet L648 5 = some (.int (i32 (le))) := eL648 ▸ jg_ne (by decide) gL646_5 rfl
      have gL648_6 : jGet L648 6 = some (.int (i32 (b6))) := eL648 ▸ jg_ne (by decide) gL646_6 rfl
      have gL648_7 : jGet L648 7 = some (.int (i32 (dp))) := eL648 ▸ jg_ne (by decide) gL646_7 rfl
      have gL648_9 : jGet L648 9 = some (.int (i32 (fw1))) := eL648 ▸ jg_ne (by decide) gL646_9 rfl
      have gL648_8 : jGet L648 8 = some (.int (i32 (T0 21 (n).toNat))) := eL648 ▸ jg_eq
      refine jx_ar (pc' := 310) (st' := [.int (i32 (0))]) rfl rfl rfl rfl ?_
      refine jx_ld (pc' := 312) (l' := jSto1 L648 10 (.int (i32 (0)))) (st' := []) rfl rfl ?_
      obtain ⟨L649, eL649⟩ : ∃ q, q = jSto1 L648 10 (.int (i32 (0))) := ⟨_, rfl⟩
      rw [← eL649]
      have gL649_0 : jGet L649 0 = some (.ref 66) := eL649 ▸ jg_ne (by decide) gL648_0 rfl
      have gL649_1 : jGet L649 1 = some (.int (i32 (n))) := eL649 ▸ jg_ne (by decide) gL648_1 rfl
      have gL649_2 : jGet L649 2 = some (.int (i32 (1))) := eL649 ▸ jg_ne (by decide) gL648_2 rfl
      have gL649_3 : jGet L649 3 = some (.int (i32 (w))) := eL649 ▸ jg_ne (by decide) gL648_3 rfl
      have gL649_4 : jGet L649 4 = some (.int (i32 (mn))) := eL649 ▸ jg_ne (by decide) gL648_4 rfl
      have gL649_5 : jGet L649 5 = some (.int (i32 (le))) := eL649 ▸ jg_ne (by decide) gL648_5 rfl
      have gL649_6 : jGet L649 6 = some (.int (i32 (b6))) := eL649 ▸ jg_ne (by decide) gL648_6 rfl
      have gL649_7 : jGet L649 7 = some (.int (i32 (dp))) := eL649 ▸ jg_ne (by decide) gL648_7 rfl
      have gL649_9 : jGet L649 9 = some (.int (i32 (fw1))) := eL649 ▸ jg_ne (by decide) gL648_9 rfl
      have gL649_8 : jGet L649 8 = some (.int (i32 (T0 21 (n).toNat))) := eL649 ▸ jg_ne (by decide) gL648_8 rfl
      have gL649_10 : jGet L649 10 = some (.int (i32 (0))) := eL649 ▸ jg_eq
      exact c_genPar_at_312_1 (X := X) (k := k) (hN := hN) (d := d) (T0 := T0) (Q := Q) (F := F) (Sn := Sn) (Vs := Vs) (sb := sb) (pb := pb) (c0 := c0) (c1 := c1) (G := G) (A := A) (T := T) (n := n) (hi := hi) (s0 := s0) (s1 := s1) (D := D) (bd := bd) (st := st) (lg := lg) (lb := lb) (nw := nw) (al := al) (fw := fw) (hd := hd) (hW := hW) (e_st := e_st) (e_lg := e_lg) (e_lb := e_lb) (e_nw := e_nw) (e_al := e_al) (e_fw := e_fw) (h_n := h_n) (p_0 := p_0) (p_1 := p_1) (p_2 := p_2) (p_3 := p_3) (p_4 := p_4) (p_5 := p_5) (p_6 := p_6) (p_7 := p_7) (p_8 := p_8) (p_9 := p_9) (p_10 := p_10) (p_11 := p_11) (p_12 := p_12) (p_13 := p_13) (p_14 := p_14) (p_15 := p_15) (p_16 := p_16) (p_17 := p_17) (p_18 := p_18) (p_19 := p_19) (p_20 := p_20) (p_21 := p_21) (p_22 := p_22) (p_23 := p_23) (p_24 := p_24) (p_25 := p_25) (p_26 := p_26) (p_27 := p_27) (p_28 := p_28) (p_29 := p_29) (p_30 := p_30) _ L649 G620 A621 (w) (mn) (le) (b6) (T0 21 (n).toNat) (fw1) (0) (st2_622) (lg2_623) (lb1) (fw1) ((fun _ => 0)) rfl gL649_0 gL649_1 gL649_2 gL649_3 gL649_4 gL649_5 gL649_6 gL649_8 gL649_9 gL649_10 hW624 hF636 hC637 hAl638 hBp639 (Cd_mk (fun hC => Cd_ap hBo645 (by omega))) ((e627)) ((e628)) (((hF625.1 77 rfl).trans (ex_lb1))) ((congrFun (hF625.2 51 rfl) _).trans (ex_fw1)) (((hF625.1 81 rfl).trans (fx_81))) (((hF625.1 89 rfl).trans (fx_89))) (by omega) (by omega) (by omega) (by omega) (by omega) (by omega) (by omega) (by omega) (by omega) (by omega) (by omega) (by omega) ((Cd_mk (fun hC => by have := Cd_ap iv_5 (by omega); omega))) (by omega) (by omega) (by omega) (by omega) (by omega) (by omega) (by omega) (by omega) (by omega) (by omega) (by omega) ((Cd_mk (fun hC => (by have hr := Cd_ap iv_17 (by omega); omega)))) (by omega) (sf640) (sf641) ((PE_i (by omega) sf642)) ((PE_i (by omega) sf643)) ((LBd_i (by omega) iv_23)) ((Cd_mk (fun hC => (gP2_0 (by omega) (Cd_ap sf644 (by omega)) (by omega) (Cd_ap p634 (by omega)) (by omega) rfl))))
    · have _q := h619
      obtain ⟨hj1, ⟨a8, b8, u8, v8, ha8, hb8, hu8, hu9, hv8, hw8⟩, hj3, hj4, hj5, hj6, hj7⟩ := hk4 (i).toNat (by omega); have hin8 := wP_in hw8; have hk26 : T0 26 (c).toNat = T0 26 (kid T0 n (i).toNat).toNat := (by rw [iv_11]); have hk27 : T0 27 (c).toNat = T0 27 (kid T0 n (i).toNat).toNat := (by rw [iv_11]); have hk22 : T0 22 (c).toNat = T0 22 (kid T0 n (i).toNat).toNat := (by rw [iv_11])
      refine jx_ld (pc' := 126) (l' := L) (st' := [.ref 66]) rfl (jl_aloadn gL_0) ?_
      refine jr_get (pc' := 129) (i := 86) (v := .ref 123) rfl rfl (by decide) rfl rfl ?_
      refine jx_ld (pc' := 131) (l' := L) (st' := [.int (i32 (b6)), .ref 123]) rfl (jl_iload gL_6) ?_
      refine jx_ld (pc' := 133) (l' := L) (st' := [.int (i32 (i)), .int (i32 (b6)), .ref 123]) rfl (jl_iload gL_9) ?_
      refine jx_add (pc' := 134) rfl rfl ?_
      refine jx_ld (pc' := 135) (l' := L) (st' := [.ref 66, .int (i32 ((b6 + i))), .ref 123]) rfl (jl_aloadn gL_0) ?_
      refine jx_vr (pc' := 138) (as := []) (st := [.int (i32 ((b6 + i))), .ref 123]) rfl rfl rfl rfl ⟨rfl, rfl, Nat.le_of_ble_eq_true rfl⟩ rfl rfl (c_label (dd := d) (hd := by omega) (hW := hWx)  (lb := lb1) (e_lb := show Gx 77 = lb1 from (ex_lb1))    (p_0 := by omega) (p_1 := by omega)) (fun o V' hq => ?_)
      obtain ⟨G650, A651, r652, lb2_653, rfl, rfl, hW654, hF655, b656, e657, p658, p659, p660, p661, -⟩ := hq
      have hF663 := Fr_tr hFx hF655 (Fr_sub (by decide)) (Fr_sub (by decide))
      have hC664 := Fx_f hCx hF655 (by decide)
      have hAl665 := Fx_f hAlx hF655 (by decide)
      have hBp666 := Fx_f hBpx hF655 (by decide)
      have sf667 := FA_fr (hF655.2 51 rfl) iv_19
      have sf668 := SA_fr (hF655.2 13 rfl) iv_20
      have sf669 : PE 56 (La) (b6) (i) A651 := PE_fr (hF655.2 56 rfl) iv_21
      have sf670 : PE 57 (fL T0 F nw n) (b6) (i) A651 := PE_fr (hF655.2 57 rfl) iv_22
      have blb2_653 : (-2147483648 : Int) ≤ lb2_653 ∧ lb2_653 ≤ 2147483647 := e657 ▸ hW654.1 77
      refine .inr ⟨_, rfl, ?_⟩
      have sf671 : Cd (lg1 = 0 ∧ lb2_653 < 19999) (gP1 T0 A651 (La) (n) ((i).toNat) (le) (st) (st1) (lb + 1) (lb1)) := Cd_mk (fun hC => gP1_mv (Cg_fx (l0 := lb + 1) (l1 := lb1) (Fx_f (w := st1) Fx_rf hF655 (by decide)) (Fx_f (w := lb1 + 1) Fx_rf hF655 (by decide)) (by omega)) (by omega) (Cd_ap iv_24 (by omega)))
      have hBo672 : Cd (lg1 = 0 ∧ lb2_653 < 19999) (Fx [50] (lb + 1) A A651) := Cd_mk (fun hC => Fx_f (Cd_ap hBox (by omega)) hF655 (by decide))
      have _q : True := trivial
      refine jr_st (pc' := 139) (i := 56) (m := 320) (z := (b6 + i)) (y := r652) rfl (by decide) rfl (by decide) (by omega) (by omega) rfl ?_
      have hW674 : Wk G650 (uA A651 56 ((b6 + i)).toNat (r652)) := Wk_a hW654 (show (-2147483648 : Int) ≤ r652 by omega) (show r652 ≤ (2147483647 : Int) by omega)
      have hF675 := Fr_a (z := r652) (k := 56) (n := ((b6 + i)).toNat) hF663 (by decide)
      obtain ⟨A673, eA673⟩ : ∃ q, q = uA A651 56 ((b6 + i)).toNat (r652) := ⟨_, rfl⟩
      rw [← eA673]
      rw [← eA673] at hW674 hF675
      have q676 : A673 56 ((b6 + i)).toNat = r652 := by rw [eA673]; exact uA_eq
      have hC677 : Fx [44, 45, 46, 47] (st) A A673 := eA673 ▸ Fx_n hC664 rfl
      have hAl678 : Fx [58] (8 * al) A A673 := eA673 ▸ Fx_n hAl665 rfl
      have hBp679 : Fx [56, 57] (8 * nw) A A673 := eA673 ▸ Fx_a hBp666 (z := (b6 + i)) (by omega) (by omega)
      have sf680 := FA_fr ((congrFun eA673 51).trans (uA_ne (by decide))) sf667
      have sf681 := SA_fr ((congrFun eA673 13).trans (uA_ne (by decide))) sf668
      have sf682 : PE 56 (upf La i r652) (b6) ((i + 1)) A673 := PE_nx eA673 (by omega) (by omega) (by omega) (by omega) upf_e (PE_up sf669)
      have sf683 : PE 57 (fL T0 F nw n) (b6) (i) A673 := PE_fr ((congrFun eA673 57).trans (uA_ne (by decide))) sf670
      have sf684 : Cd (lg1 = 0 ∧ lb2_653 < 19999) (gP1 T0 A673 (La) (n) ((i).toNat) (le) (st) (st1) (lb + 1) (lb1)) := Cd_mk (fun hC => gP1_mv (Cg_ne (K := st1) eA673 rfl) (Int.le_refl _) (Cd_ap sf671 (by omega)))
      have hds := dpt_s (T := T0) (p := n) (i := i) (by omega); have hks := (kid_29 (j := (i + 1).toNat) iv_18).trans (kid_29 (j := (i).toNat) iv_18).symm
      refine jx_ld (pc' := 140) (l' := L) (st' := [.ref 66]) rfl (jl_aloadn gL_0) ?_
      refine jr_get (pc' := 143) (i := 87) (v := .ref 124) rfl rfl (by decide) rfl rfl ?_
      refine jx_ld (pc' := 145) (l' := L) (st' := [.int (i32 (b6)), .ref 124]) rfl (jl_iload gL_6) ?_
      refine jx_ld (pc' := 147) (l' := L) (st' := [.int (i32 (i)), .int (i32 (b6)), .ref 124]) rfl (jl_iload gL_9) ?_
      refine jx_add (pc' := 148) rfl rfl ?_
      refine jx_ld (pc' := 149) (l' := L) (st' := [.ref 66, .int (i32 ((b6 + i))), .ref 124]) rfl (jl_aloadn gL_0) ?_
      refine jr_get (pc' := 152) (i := 80) (v := .ref 118) rfl rfl (by decide) rfl rfl ?_
      refine jx_ld (pc' := 153) (l' := L) (st' := [.ref 66, .ref 118, .int (i32 ((b6 + i))), .ref 124]) rfl (jl_aloadn gL_0) ?_
      refine jr_get (pc' := 156) (i := 81) (v := .int (i32 (nw))) rfl rfl (by decide) (rFv_eq (by decide) (show G650 81 = nw from ((hF655.1 81 rfl).trans (fx_81)))) rfl ?_
      refine jr_ldv (pc' := 157) (i := 51) (m := 40) (z := nw) (y := fw1) rfl (by decide) rfl (by decide) (by omega) (by omega) rfl (show A673 51 (nw).toNat = fw1 from (congrFun (((congrFun eA673 51).trans (uA_ne (by decide))).trans (hF655.2 51 rfl)) _).trans (ex_fw1)) ?_
      refine jx_ld (pc' := 159) (l' := L) (st' := [.int (i32 (dp)), .int (i32 (fw1)), .int (i32 ((b6 + i))), .ref 124]) rfl (jl_iload gL_7) ?_
      refine jx_sub (pc' := 160) rfl rfl ?_
      refine jx_ld (pc' := 161) (l' := L) (st' := [.ref 66, .int (i32 ((fw1 - dp))), .int (i32 ((b6 + i))), .ref 124]) rfl (jl_aloadn gL_0) ?_
      refine jr_get (pc' := 164) (i := 43) (v := .ref 93) rfl rfl (by decide) rfl rfl ?_
      refine jx_ld (pc' := 166) (l' := L) (st' := [.int (i32 (c)), .ref 93, .int (i32 ((fw1 - dp))), .int (i32 ((b6 + i))), .ref 124]) rfl (jl_iload gL_8) ?_
      have b685 : (-2147483648 : Int) ≤ T0 26 (c).toNat ∧ T0 26 (c).toNat ≤ 2147483647 := hWT.2 26 _
      refine jr_ldv (pc' := 167) (i := 26) (m := 7000) (z := c) (y := T0 26 (c).toNat) rfl (by decide) rfl (by decide) (by omega) (by omega) rfl (show A673 26 (c).toNat = T0 26 (c).toNat from (congrFun (((congrFun eA673 26).trans (uA_ne (by decide))).trans ((hF655.2 26 rfl).trans ((hFx.2 26 rfl).trans (p_0 26 rfl)))) _)) ?_
      refine jx_sub (pc' := 168) rfl rfl ?_
      refine jr_st (pc' := 169) (i := 57) (m := 320) (z := (b6 + i)) (y := ((fw1 - dp) - T0 26 (c).toNat)) rfl (by decide) rfl (by decide) (by omega) (by omega) rfl ?_
      have hW687 : Wk G650 (uA A673 57 ((b6 + i)).toNat (((fw1 - dp) - T0 26 (c).toNat))) := Wk_a hW674 (show (-2147483648 : Int) ≤ ((fw1 - dp) - T0 26 (c).toNat) by omega) (show ((fw1 - dp) - T0 26 (c).toNat) ≤ (2147483647 : Int) by omega)
      have hF688 := Fr_a (z := ((fw1 - dp) - T0 26 (c).toNat)) (k := 57) (n := ((b6 + i)).toNat) hF675 (by decide)
      obtain ⟨A686, eA686⟩ : ∃ q, q = uA A673 57 ((b6 + i)).toNat (((fw1 - dp) - T0 26 (c).toNat)) := ⟨_, rfl⟩
      rw [← eA686]
      rw [← eA686] at hW687 hF688
      have q689 : A686 57 ((b6 + i)).toNat = ((fw1 - dp) - T0 26 (c).toNat) := by rw [eA686]; exact uA_eq
      have hC690 : Fx [44, 45, 46, 47] (st) A A686 := eA686 ▸ Fx_n hC677 rfl
      have hAl691 : Fx [58] (8 * al) A A686 := eA686 ▸ Fx_n hAl678 rfl
      have hBp692 : Fx [56, 57] (8 * nw) A A686 := eA686 ▸ Fx_a hBp679 (z := (b6 + i)) (by omega) (by omega)
      have sf693 := FA_fr ((congrFun eA686 51).trans (uA_ne (by decide))) sf680
      have sf694 := SA_fr ((congrFun eA686 13).trans (uA_ne (by decide))) sf681
      have sf695 : PE 56 (upf La i r652) (b6) ((i + 1)) A686 := PE_fr ((congrFun eA686 56).trans (uA_ne (by decide))) sf682
      have sf696 : PE 57 (fL T0 F nw n) (b6) ((i + 1)) A686 := PE_nx eA686 (by omega) (by omega) (by omega) (by omega) (show fL T0 F nw n (i) = ((fw1 - dp) - T0 26 (c).toNat) by unfold fL; omega) sf683
      have sf697 : Cd (lg1 = 0 ∧ lb2_653 < 19999) (gP1 T0 A686 (La) (n) ((i).toNat) (le) (st) (st1) (lb + 1) (lb1)) := Cd_mk (fun hC => gP1_mv (Cg_ne (K := st1) eA686 rfl) (Int.le_refl _) (Cd_ap sf684 (by omega)))
      refine jx_ld (pc' := 171) (l' := L) (st' := [.int (i32 (dp))]) rfl (jl_iload gL_7) ?_
      refine jx_ld (pc' := 172) (l' := L) (st' := [.ref 66, .int (i32 (dp))]) rfl (jl_aloadn gL_0) ?_
      refine jr_get (pc' := 175) (i := 43) (v := .ref 93) rfl rfl (by decide) rfl rfl ?_
      refine jx_ld (pc' := 177) (l' := L) (st' := [.int (i32 (c)), .ref 93, .int (i32 (dp))]) rfl (jl_iload gL_8) ?_
      refine jr_ldv (pc' := 178) (i := 26) (m := 7000) (z := c) (y := T0 26 (c).toNat) rfl (by decide) rfl (by decide) (by omega) (by omega) rfl (show A686 26 (c).toNat = T0 26 (c).toNat from (congrFun (((congrFun eA686 26).trans (uA_ne (by decide))).trans (((congrFun eA673 26).trans (uA_ne (by decide))).trans ((hF655.2 26 rfl).trans ((hFx.2 26 rfl).trans (p_0 26 rfl))))) _)) ?_
      refine jx_add (pc' := 179) rfl rfl ?_
      refine jx_ld (pc' := 180) (l' := L) (st' := [.ref 66, .int (i32 ((dp + T0 26 (c).toNat)))]) rfl (jl_aloadn gL_0) ?_
      refine jr_get (pc' := 183) (i := 44) (v := .ref 94) rfl rfl (by decide) rfl rfl ?_
      refine jx_ld (pc' := 185) (l' := L) (st' := [.int (i32 (c)), .ref 94, .int (i32 ((dp + T0 26 (c).toNat)))]) rfl (jl_iload gL_8) ?_
      have b698 : (-2147483648 : Int) ≤ T0 27 (c).toNat ∧ T0 27 (c).toNat ≤ 2147483647 := hWT.2 27 _
      refine jr_ldv (pc' := 186) (i := 27) (m := 7000) (z := c) (y := T0 27 (c).toNat) rfl (by decide) rfl (by decide) (by omega) (by omega) rfl (show A686 27 (c).toNat = T0 27 (c).toNat from (congrFun (((congrFun eA686 27).trans (uA_ne (by decide))).trans (((congrFun eA673 27).trans (uA_ne (by decide))).trans ((hF655.2 27 rfl).trans ((hFx.2 27 rfl).trans (p_0 27 rfl))))) _)) ?_
      refine jx_add (pc' := 187) rfl rfl ?_
      refine jx_ar (pc' := 188) (st' := [.int (i32 (3)), .int (i32 (((dp + T0 26 (c).toNat) + T0 27 (c).toNat)))]) rfl rfl rfl rfl ?_
      refine jx_add (pc' := 189) rfl rfl ?_
      refine jx_ld (pc' := 191) (l' := jSto1 L 7 (.int (i32 ((((dp + T0 26 (c).toNat) + T0 27 (c).toNat) + 3))))) (st' := []) rfl rfl ?_
      obtain ⟨L699, eL699⟩ : ∃ q, q = jSto1 L 7 (.int (i32 ((((dp + T0 26 (c).toNat) + T0 27 (c).toNat) + 3)))) := ⟨_, rfl⟩
      rw [← eL699]
      have gL699_0 : jGet L699 0 = some (.ref 66) := eL699 ▸ jg_ne (by decide) gL_0 rfl
      have gL699_1 : jGet L699 1 = some (.int (i32 (n))) := eL699 ▸ jg_ne (by decide) gL_1 rfl
      have gL699_2 : jGet L699 2 = some (.int (i32 (1))) := eL699 ▸ jg_ne (by decide) gL_2 rfl
      have gL699_3 : jGet L699 3 = some (.int (i32 (w))) := eL699 ▸ jg_ne (by decide) gL_3 rfl
      have gL699_4 : jGet L699 4 = some (.int (i32 (mn))) := eL699 ▸ jg_ne (by decide) gL_4 rfl
      have gL699_5 : jGet L699 5 = some (.int (i32 (le))) := eL699 ▸ jg_ne (by decide) gL_5 rfl
      have gL699_6 : jGet L699 6 = some (.int (i32 (b6))) := eL699 ▸ jg_ne (by decide) gL_6 rfl
      have gL699_8 : jGet L699 8 = some (.int (i32 (c))) := eL699 ▸ jg_ne (by decide) gL_8 rfl
      have gL699_9 : jGet L699 9 = some (.int (i32 (i))) := eL699 ▸ jg_ne (by decide) gL_9 rfl
      have gL699_7 : jGet L699 7 = some (.int (i32 ((((dp + T0 26 (c).toNat) + T0 27 (c).toNat) + 3)))) := eL699 ▸ jg_eq
      refine jx_ld (pc' := 192) (l' := L699) (st' := [.ref 66]) rfl (jl_aloadn gL699_0) ?_
      refine jx_ld (pc' := 193) (l' := L699) (st' := [.ref 66, .ref 66]) rfl (jl_aloadn gL699_0) ?_
      refine jr_get (pc' := 196) (i := 86) (v := .ref 123) rfl rfl (by decide) rfl rfl ?_
      refine jx_ld (pc' := 198) (l' := L699) (st' := [.int (i32 (b6)), .ref 123, .ref 66]) rfl (jl_iload gL699_6) ?_
      refine jx_ld (pc' := 200) (l' := L699) (st' := [.int (i32 (i)), .int (i32 (b6)), .ref 123, .ref 66]) rfl (jl_iload gL699_9) ?_
      refine jx_add (pc' := 201) rfl rfl ?_
      refine jr_ldv (pc' := 202) (i := 56) (m := 320) (z := (b6 + i)) (y := r652) rfl (by decide) rfl (by decide) (by omega) (by omega) rfl (show A686 56 ((b6 + i)).toNat = r652 from (congrFun ((congrFun eA686 56).trans (uA_ne (by decide))) _).trans (q676)) ?_
      refine jx_vr (pc' := 205) (as := [.int (i32 (r652))]) (st := []) rfl rfl rfl rfl ⟨rfl, rfl, Nat.le_of_ble_eq_true rfl⟩ rfl rfl (c_place (dd := d) (hd := by omega) (hW := hW687) (to := r652) (st := st1) (e_st := show G650 70 = st1 from ((hF655.1 70 rfl).trans (ex_st1))) (lg := lg1) (e_lg := show G650 79 = lg1 from ((hF655.1 79 rfl).trans (ex_lg1))) (lb := lb2_653) (e_lb := show G650 77 = lb2_653 from (e657))  (h_to := ⟨(Int.le_trans (by decide : (-2147483648 : Int) ≤ -2147483648) b656.1), (Int.le_trans b656.2 (by decide : (2147483647 : Int) ≤ 2147483647))⟩)  (p_0 := by omega) (p_1 := by omega) (p_2 := by omega) (p_3 := by omega)) (fun o V' hq => ?_)
      obtain ⟨G700, A701, st2_702, lg2_703, lb2_704, rfl, rfl, hW705, hF706, hQ707, e708, e709, e710, p711, p712, p713, p714, p715, p716, p717, p718, -⟩ := hq
      have hF720 := Fr_tr hF688 hF706 (Fr_sub (by decide)) (Fr_sub (by decide))
      have hC721 := Fx_tr hC690 hQ707 (by omega)
      have hAl722 := Fx_f hAl691 hF706 (by decide)
      have hBp723 := Fx_f hBp692 hF706 (by decide)
      have sf724 := FA_fr (hF706.2 51 rfl) sf693
      have sf725 := SA_fr (hF706.2 13 rfl) sf694
      have sf726 : PE 56 (upf La i r652) (b6) ((i + 1)) A701 := PE_fr (hF706.2 56 rfl) sf695
      have sf727 : PE 57 (fL T0 F nw n) (b6) ((i + 1)) A701 := PE_fr (hF706.2 57 rfl) sf696
      have bst2_702 : (-2147483648 : Int) ≤ st2_702 ∧ st2_702 ≤ 2147483647 := e708 ▸ hW705.1 70
      have blg2_703 : (0 : Int) ≤ lg2_703 ∧ lg2_703 ≤ 1 := e709 ▸ hW705.1 79
      have blb2_704 : (-2147483648 : Int) ≤ lb2_704 ∧ lb2_704 ≤ 2147483647 := e710 ▸ hW705.1 77
      refine .inl ⟨rfl, ?_⟩
      have sf728 : Cd (lg2_703 = 0 ∧ lb2_704 < 19999) (gP1 T0 A701 (La) (n) ((i).toNat) (le) (st) (st1) (lb + 1) (lb1)) := Cd_mk (fun hC => gP1_mv (Cg_fx (l0 := lb + 1) (l1 := lb1) hQ707 (Cd_ap p717 (by omega)) (by omega)) (by omega) (Cd_ap sf697 (by omega)))
      have hBo729 : Cd (lg2_703 = 0 ∧ lb2_704 < 19999) (Fx [50] (lb + 1) A A701) := Cd_mk (fun hC => Fx_tr (Cd_ap hBo672 (by omega)) (Cd_ap p717 (by omega)) (by omega))
      refine jx_ld (pc' := 206) (l' := L699) (st' := [.ref 66]) rfl (jl_aloadn gL699_0) ?_
      refine jx_ar (pc' := 207) (st' := [.int (i32 (1)), .ref 66]) rfl rfl rfl rfl ?_
      refine jx_ld (pc' := 208) (l' := L699) (st' := [.ref 66, .int (i32 (1)), .ref 66]) rfl (jl_aloadn gL699_0) ?_
      refine jr_get (pc' := 211) (i := 87) (v := .ref 124) rfl rfl (by decide) rfl rfl ?_
      refine jx_ld (pc' := 213) (l' := L699) (st' := [.int (i32 (b6)), .ref 124, .int (i32 (1)), .ref 66]) rfl (jl_iload gL699_6) ?_
      refine jx_ld (pc' := 215) (l' := L699) (st' := [.int (i32 (i)), .int (i32 (b6)), .ref 124, .int (i32 (1)), .ref 66]) rfl (jl_iload gL699_9) ?_
      refine jx_add (pc' := 216) rfl rfl ?_
      refine jr_ldv (pc' := 217) (i := 57) (m := 320) (z := (b6 + i)) (y := ((fw1 - dp) - T0 26 (c).toNat)) rfl (by decide) rfl (by decide) (by omega) (by omega) rfl (show A701 57 ((b6 + i)).toNat = ((fw1 - dp) - T0 26 (c).toNat) from (congrFun (hF706.2 57 rfl) _).trans (q689)) ?_
      refine jx_ld (pc' := 218) (l' := L699) (st' := [.ref 66, .int (i32 (((fw1 - dp) - T0 26 (c).toNat))), .int (i32 (1)), .ref 66]) rfl (jl_aloadn gL699_0) ?_
      refine jr_get (pc' := 221) (i := 80) (v := .ref 118) rfl rfl (by decide) rfl rfl ?_
      refine jx_ld (pc' := 222) (l' := L699) (st' := [.ref 66, .ref 118, .int (i32 (((fw1 - dp) - T0 26 (c).toNat))), .int (i32 (1)), .ref 66]) rfl (jl_aloadn gL699_0) ?_
      refine jr_get (pc' := 225) (i := 81) (v := .int (i32 (nw))) rfl rfl (by decide) (rFv_eq (by decide) (show G700 81 = nw from ((hF706.1 81 rfl).trans ((hF655.1 81 rfl).trans (fx_81))))) rfl ?_
      refine jr_ldv (pc' := 226) (i := 51) (m := 40) (z := nw) (y := fw1) rfl (by decide) rfl (by decide) (by omega) (by omega) rfl (show A701 51 (nw).toNat = fw1 from (congrFun ((hF706.2 51 rfl).trans (((congrFun eA686 51).trans (uA_ne (by decide))).trans (((congrFun eA673 51).trans (uA_ne (by decide))).trans (hF655.2 51 rfl)))) _).trans (ex_fw1)) ?_
      refine jx_sub (pc' := 227) rfl rfl ?_
      refine jx_vr (pc' := 230) (as := [.int (i32 (1)), .int (i32 ((((fw1 - dp) - T0 26 (c).toNat) - fw1)))]) (st := []) rfl rfl rfl rfl ⟨rfl, rfl, Nat.le_of_ble_eq_true rfl⟩ rfl rfl (c_emit (dd := d) (hd := by omega) (hW := hW705) (fn := 1) (v := (((fw1 - dp) - T0 26 (c).toNat) - fw1)) (st := st2_702) (e_st := show G700 70 = st2_702 from (e708)) (lg := lg2_703) (e_lg := show G700 79 = lg2_703 from (e709))  (h_fn := ⟨(by decide), (by decide)⟩) (h_v := ⟨(by omega), (by omega)⟩)  (p_0 := by omega) (p_1 := by omega)) (fun o V' hq => ?_)
      obtain ⟨G730, A731, st2_732, lg2_733, rfl, rfl, hW734, hF735, hQ736, e737, e738, p739, p740, p741, p742, p743, p744, -⟩ := hq
      have hF746 := Fr_tr hF720 hF735 (Fr_sub (by decide)) (Fr_sub (by decide))
      have hC747 := Fx_tr hC721 hQ736 (by omega)
      have hAl748 := Fx_f hAl722 hF735 (by decide)
      have hBp749 := Fx_f hBp723 hF735 (by decide)
      have sf750 := FA_fr (hF735.2 51 rfl) sf724
      have sf751 := SA_fr (hF735.2 13 rfl) sf725
      have sf752 : PE 56 (upf La i r652) (b6) ((i + 1)) A731 := PE_fr (hF735.2 56 rfl) sf726
      have sf753 : PE 57 (fL T0 F nw n) (b6) ((i + 1)) A731 := PE_fr (hF735.2 57 rfl) sf727
      have bst2_732 : (-2147483648 : Int) ≤ st2_732 ∧ st2_732 ≤ 2147483647 := e737 ▸ hW734.1 70
      have blg2_733 : (0 : Int) ≤ lg2_733 ∧ lg2_733 ≤ 1 := e738 ▸ hW734.1 79
      refine .inl ⟨rfl, ?_⟩
      have sf754 : Cd (lg2_733 = 0 ∧ lb2_704 < 19999) (gP1 T0 A731 (La) (n) ((i).toNat) (le) (st) (st1) (lb + 1) (lb1)) := Cd_mk (fun hC => gP1_mv (Cg_fx (l0 := lb + 1) (l1 := lb1) hQ736 (Fx_f (w := lb1 + 1) Fx_rf hF735 (by decide)) (by omega)) (by omega) (Cd_ap sf728 (by omega)))
      have sf755 : Cd (lg2_733 = 0 ∧ lb2_704 < 19999) (PL A731 (st1) (st2_702) (r652) (lb2_653) (lb2_704)) := Cd_mk (fun hC => PL_mv (Cg_fx (l0 := lb2_653) (l1 := lb2_704) hQ736 (Fx_f (w := lb2_704 + 1) Fx_rf hF735 (by decide)) (by omega)) (by omega) (Cd_ap p718 (by omega)))
      have hBo756 : Cd (lg2_733 = 0 ∧ lb2_704 < 19999) (Fx [50] (lb + 1) A A731) := Cd_mk (fun hC => Fx_f (Cd_ap hBo729 (by omega)) hF735 (by decide))
      refine jx_ld (pc' := 231) (l' := L699) (st' := [.ref 66]) rfl (jl_aloadn gL699_0) ?_
      refine jx_ld (pc' := 233) (l' := L699) (st' := [.int (i32 (i)), .ref 66]) rfl (jl_iload gL699_9) ?_
      refine jx_if_ne (pc' := 236) (tg := 255) rfl rfl rfl (Int.le_trans (by decide : (-2147483648 : Int) ≤ -2147483648) rx_i.1) (Int.le_trans rx_i.2 (by decide : (2147483647 : Int) ≤ 2147483647)) (fun h757 => ?_) (fun h757 => ?_)
      · have _q := h757
        refine jx_ar (pc' := 257) (st' := [.int (i32 (15)), .ref 66]) rfl rfl rfl rfl ?_
        refine jx_vr (pc' := 260) (as := [.int (i32 (15))]) (st := []) rfl rfl rfl rfl ⟨rfl, rfl, Nat.le_of_ble_eq_true rfl⟩ rfl rfl (c_op (dd := d) (hd := by omega) (hW := hW734) (oo := 15) (st := st2_732) (e_st := show G730 70 = st2_732 from (e737)) (lg := lg2_733) (e_lg := show G730 79 = lg2_733 from (e738))  (h_oo := ⟨(by decide), (by decide)⟩)  (p_0 := by omega) (p_1 := by omega)) (fun o V' hq => ?_)
        obtain ⟨G758, A759, st2_760, lg2_761, rfl, rfl, hW762, hF763, hQ764, e765, e766, p767, p768, p769, p770, p771, p772, -⟩ := hq
        have hF774 := Fr_tr hF746 hF763 (Fr_sub (by decide)) (Fr_sub (by decide))
        have hC775 := Fx_tr hC747 hQ764 (by omega)
        have hAl776 := Fx_f hAl748 hF763 (by decide)
        have hBp777 := Fx_f hBp749 hF763 (by decide)
        have sf778 := FA_fr (hF763.2 51 rfl) sf750
        have sf779 := SA_fr (hF763.2 13 rfl) sf751
        have sf780 : PE 56 (upf La i r652) (b6) ((i + 1)) A759 := PE_fr (hF763.2 56 rfl) sf752
        have sf781 : PE 57 (fL T0 F nw n) (b6) ((i + 1)) A759 := PE_fr (hF763.2 57 rfl) sf753
        have bst2_760 : (-2147483648 : Int) ≤ st2_760 ∧ st2_760 ≤ 2147483647 := e765 ▸ hW762.1 70
        have blg2_761 : (0 : Int) ≤ lg2_761 ∧ lg2_761 ≤ 1 := e766 ▸ hW762.1 79
        refine .inl ⟨rfl, ?_⟩
        have sf782 : Cd (lg2_761 = 0 ∧ lb2_704 < 19999) (gP1 T0 A759 (La) (n) ((i).toNat) (le) (st) (st1) (lb + 1) (lb1)) := Cd_mk (fun hC => gP1_mv (Cg_fx (l0 := lb + 1) (l1 := lb1) hQ764 (Fx_f (w := lb1 + 1) Fx_rf hF763 (by decide)) (by omega)) (by omega) (Cd_ap sf754 (by omega)))
        have sf783 : Cd (lg2_761 = 0 ∧ lb2_704 < 19999) (PL A759 (st1) (st2_702) (r652) (lb2_653) (lb2_704)) := Cd_mk (fun hC => PL_mv (Cg_fx (l0 := lb2_653) (l1 := lb2_704) hQ764 (Fx_f (w := lb2_704 + 1) Fx_rf hF763 (by decide)) (by omega)) (by omega) (Cd_ap sf755 (by omega)))
        have sf784 : Cd (lg2_761 = 0 ∧ lb2_704 < 19999) (ST A759 (st2_702) (st2_732) (1) (((fw1 - dp) - T0 26 (c).toNat) - fw1)) := Cd_mk (fun hC => ST_mv (Cg_fx (l0 := 0) (l1 := 0) hQ764 (Fx_f (w := 0 + 1) Fx_rf hF763 (by decide)) (by omega)) (by omega) (Cd_ap p744 (by omega)))
        have hBo785 : Cd (lg2_761 = 0 ∧ lb2_704 < 19999) (Fx [50] (lb + 1) A A759) := Cd_mk (fun hC => Fx_f (Cd_ap hBo756 (by omega)) hF763 (by decide))
        refine jx_ld (pc' := 261) (l' := L699) (st' := [.int (i32 (1))]) rfl (jl_iloadn gL699_2) ?_
        refine jx_if_eq (pc' := 264) (tg := 269) rfl rfl rfl (by decide) (by decide) (fun h786 => ?_) (fun h786 => ?_)
        · have _q := h786
          exact absurd h786 (by omega)
        · have _q := h786
          refine jx_ld (pc' := 266) (l' := L699) (st' := [.int (i32 (c))]) rfl (jl_iload gL699_8) ?_
          refine jx_go (tg := 276) rfl rfl ?_
          refine jx_ld (pc' := 278) (l' := jSto1 L699 8 (.int (i32 (c)))) (st' := []) rfl rfl ?_
          obtain ⟨L787, eL787⟩ : ∃ q, q = jSto1 L699 8 (.int (i32 (c))) := ⟨_, rfl⟩
          rw [← eL787]
          have gL787_0 : jGet L787 0 = some (.ref 66) := eL787 ▸ jg_ne (by decide) gL699_0 rfl
          have gL787_1 : jGet L787 1 = some (.int (i32 (n))) := eL787 ▸ jg_ne (by decide) gL699_1 rfl
          have gL787_2 : jGet L787 2 = some (.int (i32 (1))) := eL787 ▸ jg_ne (by decide) gL699_2 rfl
          have gL787_3 : jGet L787 3 = some (.int (i32 (w))) := eL787 ▸ jg_ne (by decide) gL699_3 rfl
          have gL787_4 : jGet L787 4 = some (.int (i32 (mn))) := eL787 ▸ jg_ne (by decide) gL699_4 rfl
          have gL787_5 : jGet L787 5 = some (.int (i32 (le))) := eL787 ▸ jg_ne (by decide) gL699_5 rfl
          have gL787_6 : jGet L787 6 = some (.int (i32 (b6))) := eL787 ▸ jg_ne (by decide) gL699_6 rfl
          have gL787_9 : jGet L787 9 = some (.int (i32 (i))) := eL787 ▸ jg_ne (by decide) gL699_9 rfl
          have gL787_7 : jGet L787 7 = some (.int (i32 ((((dp + T0 26 (c).toNat) + T0 27 (c).toNat) + 3)))) := eL787 ▸ jg_ne (by decide) gL699_7 rfl
          have gL787_8 : jGet L787 8 = some (.int (i32 (c))) := eL787 ▸ jg_eq
          refine jx_inc (pc' := 281) (l' := jSto1 L787 9 (.int (i32 ((i + (1)))))) (x := i) rfl gL787_9 (by decide) rfl rfl ?_
          obtain ⟨L788, eL788⟩ : ∃ q, q = jSto1 L787 9 (.int (i32 ((i + (1))))) := ⟨_, rfl⟩
          rw [← eL788]
          have gL788_0 : jGet L788 0 = some (.ref 66) := eL788 ▸ jg_ne (by decide) gL787_0 rfl
          have gL788_1 : jGet L788 1 = some (.int (i32 (n))) := eL788 ▸ jg_ne (by decide) gL787_1 rfl
          have gL788_2 : jGet L788 2 = some (.int (i32 (1))) := eL788 ▸ jg_ne (by decide) gL787_2 rfl
          have gL788_3 : jGet L788 3 = some (.int (i32 (w))) := eL788 ▸ jg_ne (by decide) gL787_3 rfl
          have gL788_4 : jGet L788 4 = some (.int (i32 (mn))) := eL788 ▸ jg_ne (by decide) gL787_4 rfl
          have gL788_5 : jGet L788 5 = some (.int (i32 (le))) := eL788 ▸ jg_ne (by decide) gL787_5 rfl
          have gL788_6 : jGet L788 6 = some (.int (i32 (b6))) := eL788 ▸ jg_ne (by decide) gL787_6 rfl
          have gL788_7 : jGet L788 7 = some (.int (i32 ((((dp + T0 26 (c).toNat) + T0 27 (c).toNat) + 3)))) := eL788 ▸ jg_ne (by decide) gL787_7 rfl
          have gL788_8 : jGet L788 8 = some (.int (i32 (c))) := eL788 ▸ jg_ne (by decide) gL787_8 rfl
          have gL788_9 : jGet L788 9 = some (.int (i32 ((i + (1))))) := eL788 ▸ jg_eq
          refine jx_go (tg := 118) rfl rfl ?_
          exact ih118_1 _ (by omega) L788 G758 A759 (w) (mn) (le) (b6) ((((dp + T0 26 (c).toNat) + T0 27 (c).toNat) + 3)) (c) ((i + (1))) (st2_760) (lg2_761) (lb2_704) (fw1) ((upf La i r652)) rfl gL788_0 gL788_1 gL788_2 gL788_3 gL788_4 gL788_5 gL788_6 gL788_7 gL788_8 gL788_9 hW762 hF774 hC775 hAl776 hBp777 (Cd_mk (fun hC => Cd_ap hBo785 (by omega))) ((e765)) ((e766)) (((hF763.1 77 rfl).trans ((hF735.1 77 rfl).trans (e710)))) ((congrFun ((hF763.2 51 rfl).trans ((hF735.2 51 rfl).trans ((hF706.2 51 rfl).trans (((congrFun eA686 51).trans (uA_ne (by decide))).trans (((congrFun eA673 51).trans (uA_ne (by decide))).trans (hF655.2 51 rfl)))))) _).trans (ex_fw1)) (((hF763.1 81 rfl).trans ((hF735.1 81 rfl).trans ((hF706.1 81 rfl).trans ((hF655.1 81 rfl).trans (fx_81)))))) (((hF763.1 89 rfl).trans ((hF735.1 89 rfl).trans ((hF706.1 89 rfl).trans ((hF655.1 89 rfl).trans (fx_89)))))) (by omega) (by omega) (by omega) (by omega) (by omega) (by omega) (by omega) (by omega) (by omega) (by omega) (by omega) (by omega) ((Cd_mk (fun hC => by have := Cd_ap iv_5 (by omega); omega))) (by omega) (by omega) (by omega) (by omega) (by omega) (by omega) (by omega) (by omega) (by omega) (by omega) (by omega) ((Cd_mk (fun hC => (by have hr := Cd_ap iv_17 (by omega); omega)))) (by omega) (sf778) (sf779) ((PE_i (by omega) sf780)) ((PE_i (by omega) sf781)) ((LBd_nx iv_23 (by omega) (by omega) (by omega))) ((Cd_mk (fun hC => (gP1_nx (by omega) (Cd_ap sf782 (by omega)) (by have hr := Cd_ap p661 (by omega); omega) (by omega) (PL_su (Cd_ap sf783 (by omega)) (by omega) (by omega)) (Cd_ap sf784 (by omega)) (Cd_ap p772 (by omega)) (by omega) (by unfold pri; first | exact (if_pos (by omega)).symm | exact (if_neg (by omega)).symm)))))
      · have _q := h757
        refine jx_ld (pc' := 237) (l' := L699) (st' := [.int (i32 (1)), .ref 66]) rfl (jl_iloadn gL699_2) ?_
        refine jx_if_ne (pc' := 240) (tg := 255) rfl rfl rfl (by decide) (by decide) (fun h789 => ?_) (fun h789 => ?_)
        · have _q := h789
          refine jx_ar (pc' := 257) (st' := [.int (i32 (15)), .ref 66]) rfl rfl rfl rfl ?_
          refine jx_vr (pc' := 260) (as := [.int (i32 (15))]) (st := []) rfl rfl rfl rfl ⟨rfl, rfl, Nat.le_of_ble_eq_true rfl⟩ rfl rfl (c_op (dd := d) (hd := by omega) (hW := hW734) (oo := 15) (st := st2_732) (e_st := show G730 70 = st2_732 from (e737)) (lg := lg2_733) (e_lg := show G730 79 = lg2_733 from (e738))  (h_oo := ⟨(by decide), (by decide)⟩)  (p_0 := by omega) (p_1 := by omega)) (fun o V' hq => ?_)
          obtain ⟨G790, A791, st2_792, lg2_793, rfl, rfl, hW794, hF795, hQ796, e797, e798, p799, p800, p801, p802, p803, p804, -⟩ := hq
          have hF806 := Fr_tr hF746 hF795 (Fr_sub (by decide)) (Fr_sub (by decide))
          have hC807 := Fx_tr hC747 hQ796 (by omega)
          have hAl808 := Fx_f hAl748 hF795 (by decide)
          have hBp809 := Fx_f hBp749 hF795 (by decide)
          have sf810 := FA_fr (hF795.2 51 rfl) sf750
          have sf811 := SA_fr (hF795.2 13 rfl) sf751
          have sf812 : PE 56 (upf La i r652) (b6) ((i + 1)) A791 := PE_fr (hF795.2 56 rfl) sf752
          have sf813 : PE 57 (fL T0 F nw n) (b6) ((i + 1)) A791 := PE_fr (hF795.2 57 rfl) sf753
          have bst2_792 : (-2147483648 : Int) ≤ st2_792 ∧ st2_792 ≤ 2147483647 := e797 ▸ hW794.1 70
          have blg2_793 : (0 : Int) ≤ lg2_793 ∧ lg2_793 ≤ 1 := e798 ▸ hW794.1 79
          refine .inl ⟨rfl, ?_⟩
          have sf814 : Cd (lg2_793 = 0 ∧ lb2_704 < 19999) (gP1 T0 A791 (La) (n) ((i).toNat) (le) (st) (st1) (lb + 1) (lb1)) := Cd_mk (fun hC => gP1_mv (Cg_fx (l0 := lb + 1) (l1 := lb1) hQ796 (Fx_f (w := lb1 + 1) Fx_rf hF795 (by decide)) (by omega)) (by omega) (Cd_ap sf754 (by omega)))
          have sf815 : Cd (lg2_793 = 0 ∧ lb2_704 < 19999) (PL A791 (st1) (st2_702) (r652) (lb2_653) (lb2_704)) := Cd_mk (fun hC => PL_mv (Cg_fx (l0 := lb2_653) (l1 := lb2_704) hQ796 (Fx_f (w := lb2_704 + 1) Fx_rf hF795 (by decide)) (by omega)) (by omega) (Cd_ap sf755 (by omega)))
          have sf816 : Cd (lg2_793 = 0 ∧ lb2_704 < 19999) (ST A791 (st2_702) (st2_732) (1) (((fw1 - dp) - T0 26 (c).toNat) - fw1)) := Cd_mk (fun hC => ST_mv (Cg_fx (l0 := 0) (l1 := 0) hQ796 (Fx_f (w := 0 + 1) Fx_rf hF795 (by decide)) (by omega)) (by omega) (Cd_ap p744 (by omega)))
          have hBo817 : Cd (lg2_793 = 0 ∧ lb2_704 < 19999) (Fx [50] (lb + 1) A A791) := Cd_mk (fun hC => Fx_f (Cd_ap hBo756 (by omega)) hF795 (by decide))
          refine jx_ld (pc' := 261) (l' := L699) (st' := [.int (i32 (1))]) rfl (jl_iloadn gL699_2) ?_
          refine jx_if_eq (pc' := 264) (tg := 269) rfl rfl rfl (by decide) (by decide) (fun h818 => ?_) (fun h818 => ?_)
          · have _q := h818
            exact absurd h818 (by omega)
          · have _q := h818
            refine jx_ld (pc' := 266) (l' := L699) (st' := [.int (i32 (c))]) rfl (jl_iload gL699_8) ?_
            refine jx_go (tg := 276) rfl rfl ?_
            refine jx_ld (pc' := 278) (l' := jSto1 L699 8 (.int (i32 (c)))) (st' := []) rfl rfl ?_
            obtain ⟨L819, eL819⟩ : ∃ q, q = jSto1 L699 8 (.int (i32 (c))) := ⟨_, rfl⟩
            rw [← eL819]
            have gL819_0 : jGet L819 0 = some (.ref 66) := eL819 ▸ jg_ne (by decide) gL699_0 rfl
            have gL819_1 : jGet L819 1 = some (.int (i32 (n))) := eL819 ▸ jg_ne (by decide) gL699_1 rfl
            have gL819_2 : jGet L819 2 = some (.int (i32 (1))) := eL819 ▸ jg_ne (by decide) gL699_2 rfl
            have gL819_3 : jGet L819 3 = some (.int (i32 (w))) := eL819 ▸ jg_ne (by decide) gL699_3 rfl
            have gL819_4 : jGet L819 4 = some (.int (i32 (mn))) := eL819 ▸ jg_ne (by decide) gL699_4 rfl
            have gL819_5 : jGet L819 5 = some (.int (i32 (le))) := eL819 ▸ jg_ne (by decide) gL699_5 rfl
            have gL819_6 : jGet L819 6 = some (.int (i32 (b6))) := eL819 ▸ jg_ne (by decide) gL699_6 rfl
            have gL819_9 : jGet L819 9 = some (.int (i32 (i))) := eL819 ▸ jg_ne (by decide) gL699_9 rfl
            have gL819_7 : jGet L819 7 = some (.int (i32 ((((dp + T0 26 (c).toNat) + T0 27 (c).toNat) + 3)))) := eL819 ▸ jg_ne (by decide) gL699_7 rfl
            have gL819_8 : jGet L819 8 = some (.int (i32 (c))) := eL819 ▸ jg_eq
            refine jx_inc (pc' := 281) (l' := jSto1 L819 9 (.int (i32 ((i + (1)))))) (x := i) rfl gL819_9 (by decide) rfl rfl ?_
            obtain ⟨L820, eL820⟩ : ∃ q, q = jSto1 L819 9 (.int (i32 ((i + (1))))) := ⟨_, rfl⟩
            rw [← eL820]
            have gL820_0 : jGet L820 0 = some (.ref 66) := eL820 ▸ jg_ne (by decide) gL819_0 rfl
            have gL820_1 : jGet L820 1 = some (.int (i32 (n))) := eL820 ▸ jg_ne (by decide) gL819_1 rfl
            have gL820_2 : jGet L820 2 = some (.int (i32 (1))) := eL820 ▸ jg_ne (by decide) gL819_2 rfl
            have gL820_3 : jGet L820 3 = some (.int (i32 (w))) := eL820 ▸ jg_ne (by decide) gL819_3 rfl
            have gL820_4 : jGet L820 4 = some (.int (i32 (mn))) := eL820 ▸ jg_ne (by decide) gL819_4 rfl
            have gL820_5 : jGet L820 5 = some (.int (i32 (le))) := eL820 ▸ jg_ne (by decide) gL819_5 rfl
            have gL820_6 : jGet L820 6 = some (.int (i32 (b6))) := eL820 ▸ jg_ne (by decide) gL819_6 rfl
            have gL820_7 : jGet L820 7 = some (.int (i32 ((((dp + T0 26 (c).toNat) + T0 27 (c).toNat) + 3)))) := eL820 ▸ jg_ne (by decide) gL819_7 rfl
            have gL820_8 : jGet L820 8 = some (.int (i32 (c))) := eL820 ▸ jg_ne (by decide) gL819_8 rfl
            have gL820_9 : jGet L820 9 = some (.int (i32 ((i + (1))))) := eL820 ▸ jg_eq
            refine jx_go (tg := 118) rfl rfl ?_
            exact ih118_1 _ (by omega) L820 G790 A791 (w) (mn) (le) (b6) ((((dp + T0 26 (c).toNat) + T0 27 (c).toNat) + 3)) (c) ((i + (1))) (st2_792) (lg2_793) (lb2_704) (fw1) ((upf La i r652)) rfl gL820_0 gL820_1 gL820_2 gL820_3 gL820_4 gL820_5 gL820_6 gL820_7 gL820_8 gL820_9 hW794 hF806 hC807 hAl808 hBp809 (Cd_mk (fun hC => Cd_ap hBo817 (by omega))) ((e797)) ((e798)) (((hF795.1 77 rfl).trans ((hF735.1 77 rfl).trans (e710)))) ((congrFun ((hF795.2 51 rfl).trans ((hF735.2 51 rfl).trans ((hF706.2 51 rfl).trans (((congrFun eA686 51).trans (uA_ne (by decide))).trans (((congrFun eA673 51).trans (uA_ne (by decide))).trans (hF655.2 51 rfl)))))) _).trans (ex_fw1)) (((hF795.1 81 rfl).trans ((hF735.1 81 rfl).trans ((hF706.1 81 rfl).trans ((hF655.1 81 rfl).trans (fx_81)))))) (((hF795.1 89 rfl).trans ((hF735.1 89 rfl).trans ((hF706.1 89 rfl).trans ((hF655.1 89 rfl).trans (fx_89)))))) (by omega) (by omega) (by omega) (by omega) (by omega) (by omega) (by omega) (by omega) (by omega) (by omega) (by omega) (by omega) ((Cd_mk (fun hC => by have := Cd_ap iv_5 (by omega); omega))) (by omega) (by omega) (by omega) (by omega) (by omega) (by omega) (by omega) (by omega) (by omega) (by omega) (by omega) ((Cd_mk (fun hC => (by have hr := Cd_ap iv_17 (by omega); omega)))) (by omega) (sf810) (sf811) ((PE_i (by omega) sf812)) ((PE_i (by omega) sf813)) ((LBd_nx iv_23 (by omega) (by omega) (by omega))) ((Cd_mk (fun hC => (gP1_nx (by omega) (Cd_ap sf814 (by omega)) (by have hr := Cd_ap p661 (by omega); omega) (by omega) (PL_su (Cd_ap sf815 (by omega)) (by omega) (by omega)) (Cd_ap sf816 (by omega)) (Cd_ap p804 (by omega)) (by omega) (by unfold pri; first | exact (if_pos (by omega)).symm | exact (if_neg (by omega)).symm)))))
        · have _q := h789
          exact absurd h789 (by omega)
set_option maxRecDepth 20000 in
set_option maxHeartbeats 4000000 in
theorem c_genPar {X : jX} {k : Nat} (hN : GN X k) {dd : Nat} {T0 : Nat → Nat → Int} {Q F Sn : Int → Int} {Vs : Nat → Prop} {sb pb : Int} {c0 c1 : jC} {G : Nat → Int} {A : Nat → Nat → Int} {T : jH} {n : Int} {hi s0 s1 D bd : Int} {st lg lb nw al fw : Int} (hd : 2 * k + 63 ≤ dd) (hW : Wk G A) (e_st : G 70 = st) (e_lg : G 79 = lg) (e_lb : G 77 = lb) (e_nw : G 81 = nw) (e_al : G 89 = al) (e_fw : A 51 (nw).toNat = fw) (h_n : (-2147483648 : Int) ≤ n ∧ n ≤ 2147483647) (p_0 : TA T0 A) (p_1 : FA F (nw) A) (p_2 : SA T0 Vs Sn A) (p_3 : VW T0 Vs (nw)) (p_4 : 0 ≤ nw) (p_5 : nw + (k : Int) + 1 ≤ 38) (p_6 : 0 ≤ al) (p_7 : al + (k : Int) + 1 ≤ 38) (p_8 : 0 ≤ st) (p_9 : st ≤ 7000) (p_10 : 0 ≤ lb) (p_11 : lb + bd + 7000 - st ≤ 1900000000) (p_12 : hi ≤ 6999) (p_13 : sb ≤ 202) (p_14 : 0 ≤ n) (p_15 : n < hi) (p_16 : 0 ≤ s0) (p_17 : s1 ≤ sb) (p_18 : KD T0 sb pb k Vs (n) (hi) (s0) (s1) (nw) (D)) (p_19 : VB (Vs) (s0)) (p_20 : T0 15 (n).toNat = 28 ∨ T0 15 (n).toNat = 29) (p_21 : 0 ≤ T0 25 (n).toNat) (p_22 : T0 25 (n).toNat + 3 ≤ 4000) (p_23 : WB (n) (hi) (bd)) (p_24 : 0 ≤ D) (p_25 : D ≤ 4000) (p_26 : -4000 ≤ fw - D) (p_27 : fw ≤ 0) (p_28 : pb ≤ 24) (p_29 : PV T0 pb) (p_30 : PA Q pb A) : wk X dd 358 [.ref 66, .int (i32 n)] (rV c0 c1 G A T) (fun o V' => ∃ (G' : Nat → Int) (A' : Nat → Nat → Int) (st2 : Int) (lg2 : Int) (lb2 : Int) (nw2 : Int) (al2 : Int) (fw2 : Int), V' = rV c0 c1 G' A' T ∧ o = .inl none ∧ Wk G' A' ∧ Fr [70, 77, 79, 81, 89] [13, 44, 45, 46, 47, 50, 51, 56, 57, 58] G A G' A' ∧ Fx [44, 45, 46, 47] (st) A A' ∧ Fx [58] (8 * al) A A' ∧ Fx [56, 57] (8 * nw) A A' ∧ G' 70 = st2 ∧ G' 79 = lg2 ∧ G' 77 = lb2 ∧ G' 81 = nw2 ∧ G' 89 = al2 ∧ A' 51 (nw).toNat = fw2 ∧ (st ≤ st2) ∧ (st2 ≤ 7000) ∧ (lg ≤ lg2) ∧ (lg2 ≤ 1) ∧ (lb ≤ lb2) ∧ (Cd (lg2 = 0) (lb2 - lb ≤ st2 - st)) ∧ (lb2 - lb ≤ st2 - st + bd) ∧ (Cd (lg2 = 0 ∧ lb2 < 19999) (Fx [50] (lb + 1) A A')) ∧ (nw2 = nw) ∧ (al2 = al) ∧ (fw2 = fw) ∧ (FA F (nw) A') ∧ (SA T0 Vs Sn A') ∧ (Cd (lg2 = 0 ∧ lb2 < 19999) (gPa T0 A' (gP T0 A' Q k) F Sn nw (n) (st) (st2) (lb) (lb2))) ∧ True) := by
  obtain ⟨d, rfl⟩ : ∃ d, dd = d + 1 := ⟨dd - 1, by omega⟩
  refine wk_of (e := jm358) rfl (Nat.le_of_ble_eq_true rfl) ?_
  show wj X d jm358 (0, [(0, .ref 66), (1, .int (i32 (n)))], [], rV c0 c1 G A T) _
  have hF0 : Fr [70, 77, 79, 81, 89] [13, 44, 45, 46, 47, 50, 51, 56, 57, 58] G A G A := Fr_rf
  have hC0 : Fx [44, 45, 46, 47] (st) A A := Fx_rf
  have hAl0 : Fx [58] (8 * al) A A := Fx_rf
  have hBp0 : Fx [56, 57] (8 * nw) A A := Fx_rf
  have b_st : (-2147483648 : Int) ≤ st ∧ st ≤ 2147483647 := e_st ▸ hW.1 70
  have b_lg : (0 : Int) ≤ lg ∧ lg ≤ 1 := e_lg ▸ hW.1 79
  have b_lb : (-2147483648 : Int) ≤ lb ∧ lb ≤ 2147483647 := e_lb ▸ hW.1 77
  have b_nw : (-2147483648 : Int) ≤ nw ∧ nw ≤ 2147483647 := e_nw ▸ hW.1 81
  have b_al : (-2147483648 : Int) ≤ al ∧ al ≤ 2147483647 := e_al ▸ hW.1 89
  have b_fw : (-2147483648 : Int) ≤ fw ∧ fw ≤ 2147483647 := e_fw ▸ hW.2 51 _
  have hWT := TA_w hW p_0
  have hBo0 : Cd (lg = 0 ∧ lb < 19999) (Fx [50] (lb + 1) A A) := Cd_mk (fun _ => Fx_rf)
  have hfw := FA_at p_1 p_4 e_fw
  obtain ⟨hk1, hk2, hk3, hk4⟩ := p_18
  have hbp := WB_p p_23 (by omega) (by omega) (by omega)
  refine jx_ld (pc' := 1) (l' := [(0, .ref 66), (1, .int (i32 (n)))]) (st' := [.ref 66]) rfl (jl_aloadn rfl) ?_
  refine jr_get (pc' := 4) (i := 32) (v := .ref 82) rfl rfl (by decide) rfl rfl ?_
  refine jx_ld (pc' := 5) (l' := [(0, .ref 66), (1, .int (i32 (n)))]) (st' := [.int (i32 (n)), .ref 82]) rfl (jl_iloadn rfl) ?_
  have b821 : (0 : Int) ≤ T0 15 (n).toNat ∧ T0 15 (n).toNat ≤ 34 := hWT.2 15 _
  refine jr_ldv (pc' := 6) (i := 15) (m := 7000) (z := n) (y := T0 15 (n).toNat) rfl (by decide) rfl (by decide) (by omega) (by omega) rfl (show A 15 (n).toNat = T0 15 (n).toNat from (congrFun (p_0 15 rfl) _)) ?_
  refine jx_ar (pc' := 8) (st' := [.int (i32 (29)), .int (i32 (T0 15 (n).toNat))]) rfl rfl rfl rfl ?_
  refine jx_icmp_ne (pc' := 11) (tg := 15) rfl rfl rfl (Int.le_trans (by decide : (-2147483648 : Int) ≤ 0) b821.1) (Int.le_trans b821.2 (by decide : (34 : Int) ≤ 2147483647)) (by decide) (by decide) (fun h822 => ?_) (fun h822 => ?_)
  · have _q := h822
    refine jx_ar (pc' := 16) (st' := [.int (i32 (0))]) rfl rfl rfl rfl ?_
    refine jx_ld (pc' := 17) (l' := jSto1 [(0, .ref 66), (1, .int (i32 (n)))] 2 (.int (i32 (0)))) (st' := []) rfl rfl ?_
    obtain ⟨L823, eL823⟩ : ∃ q, q = jSto1 [(0, .ref 66), (1, .int (i32 (n)))] 2 (.int (i32 (0))) := ⟨_, rfl⟩
    rw [← eL823]
    have gL823_0 : jGet L823 0 = some (.ref 66) := eL823 ▸ jg_ne (by decide) (rfl : jGet [(0, .ref 66), (1, .int (i32 (n)))] 0 = some (.ref 66)) rfl
    have gL823_1 : jGet L823 1 = some (.int (i32 (n))) := eL823 ▸ jg_ne (by decide) (rfl : jGet [(0, .ref 66), (1, .int (i32 (n)))] 1 = some (.int (i32 (n)))) rfl
    have gL823_2 : jGet L823 2 = some (.int (i32 (0))) := eL823 ▸ jg_eq
    refine jx_ld (pc' := 18) (l' := L823) (st' := [.ref 66]) rfl (jl_aloadn gL823_0) ?_
    refine jr_get (pc' := 21) (i := 42) (v := .ref 92) rfl rfl (by decide) rfl rfl ?_
    refine jx_ld (pc' := 22) (l' := L823) (st' := [.int (i32 (n)), .ref 92]) rfl (jl_iloadn gL823_1) ?_
    have b824 : (-2147483648 : Int) ≤ T0 25 (n).toNat ∧ T0 25 (n).toNat ≤ 2147483647 := hWT.2 25 _
    refine jr_ldv (pc' := 23) (i := 25) (m := 7000) (z := n) (y := T0 25 (n).toNat) rfl (by decide) rfl (by decide) (by omega) (by omega) rfl (show A 25 (n).toNat = T0 25 (n).toNat from (congrFun (p_0 25 rfl) _)) ?_
    refine jx_ld (pc' := 24) (l' := jSto1 L823 3 (.int (i32 (T0 25 (n).toNat)))) (st' := []) rfl rfl ?_
    obtain ⟨L825, eL825⟩ : ∃ q, q = jSto1 L823 3 (.int (i32 (T0 25 (n).toNat))) := ⟨_, rfl⟩
    rw [← eL825]
    have gL825_0 : jGet L825 0 = some (.ref 66) := eL825 ▸ jg_ne (by decide) gL823_0 rfl
    have gL825_1 : jGet L825 1 = some (.int (i32 (n))) := eL825 ▸ jg_ne (by decide) gL823_1 rfl
    have gL825_2 : jGet L825 2 = some (.int (i32 (0))) := eL825 ▸ jg_ne (by decide) gL823_2 rfl
    have gL825_3 : jGet L825 3 = some (.int (i32 (T0 25 (n).toNat))) := eL825 ▸ jg_eq
    refine jx_ld (pc' := 25) (l' := L825) (st' := [.int (i32 (0))]) rfl (jl_iloadn gL825_2) ?_
    refine jx_if_eq (pc' := 28) (tg := 37) rfl rfl rfl (by decide) (by decide) (fun h826 => ?_) (fun h826 => ?_)
    · have _q := h826
      refine jx_ld (pc' := 38) (l' := L825) (st' := [.ref 66]) rfl (jl_aloadn gL825_0) ?_
      refine jr_get (pc' := 41) (i := 35) (v := .ref 85) rfl rfl (by decide) rfl rfl ?_
      refine jx_ld (pc' := 42) (l' := L825) (st' := [.int (i32 (n)), .ref 85]) rfl (jl_iloadn gL825_1) ?_
      have b827 : (-2147483648 : Int) ≤ T0 18 (n).toNat ∧ T0 18 (n).toNat ≤ 2147483647 := hWT.2 18 _
      refine jr_ldv (pc' := 43) (i := 18) (m := 7000) (z := n) (y := T0 18 (n).toNat) rfl (by decide) rfl (by decide) (by omega) (by omega) rfl (show A 18 (n).toNat = T0 18 (n).toNat from (congrFun (p_0 18 rfl) _)) ?_
      refine jx_ld (pc' := 45) (l' := jSto1 L825 4 (.int (i32 (T0 18 (n).toNat)))) (st' := []) rfl rfl ?_
      obtain ⟨L828, eL828⟩ : ∃ q, q = jSto1 L825 4 (.int (i32 (T0 18 (n).toNat))) := ⟨_, rfl⟩
      rw [← eL828]
      have gL828_0 : jGet L828 0 = some (.ref 66) := eL828 ▸ jg_ne (by decide) gL825_0 rfl
      have gL828_1 : jGet L828 1 = some (.int (i32 (n))) := eL828 ▸ jg_ne (by decide) gL825_1 rfl
      have gL828_2 : jGet L828 2 = some (.int (i32 (0))) := eL828 ▸ jg_ne (by decide) gL825_2 rfl
      have gL828_3 : jGet L828 3 = some (.int (i32 (T0 25 (n).toNat))) := eL828 ▸ jg_ne (by decide) gL825_3 rfl
      have gL828_4 : jGet L828 4 = some (.int (i32 (T0 18 (n).toNat))) := eL828 ▸ jg_eq
      refine jx_ld (pc' := 46) (l' := L828) (st' := [.ref 66]) rfl (jl_aloadn gL828_0) ?_
      refine jx_vr (pc' := 49) (as := []) (st := []) rfl rfl rfl rfl ⟨rfl, rfl, Nat.le_of_ble_eq_true rfl⟩ rfl rfl (c_label (dd := d) (hd := by omega) (hW := hW)  (lb := lb) (e_lb := show G 77 = lb from (e_lb))    (p_0 := by omega) (p_1 := by omega)) (fun o V' hq => ?_)
      obtain ⟨G829, A830, r831, lb2_832, rfl, rfl, hW833, hF834, b835, e836, p837, p838, p839, p840, -⟩ := hq
      have hF842 := Fr_tr hF0 hF834 (Fr_sub (by decide)) (Fr_sub (by decide))
      have hC843 := Fx_f hC0 hF834 (by decide)
      have hAl844 := Fx_f hAl0 hF834 (by decide)
      have hBp845 := Fx_f hBp0 hF834 (by decide)
      have sf846 := FA_fr (hF834.2 51 rfl) p_1
      have sf847 := SA_fr (hF834.2 13 rfl) p_2
      have blb2_832 : (-2147483648 : Int) ≤ lb2_832 ∧ lb2_832 ≤ 2147483647 := e836 ▸ hW833.1 77
      refine .inr ⟨_, rfl, ?_⟩
      have hBo848 : Cd (lg = 0 ∧ lb2_832 < 19999) (Fx [50] (lb + 1) A A830) := Cd_mk (fun hC => Fx_f (Cd_ap hBo0 (by omega)) hF834 (by decide))
      refine jx_ld (pc' := 51) (l' := jSto1 L828 5 (.int (i32 (r831)))) (st' := []) rfl rfl ?_
      obtain ⟨L849, eL849⟩ : ∃ q, q = jSto1 L828 5 (.int (i32 (r831))) := ⟨_, rfl⟩
      rw [← eL849]
      have gL849_0 : jGet L849 0 = some (.ref 66) := eL849 ▸ jg_ne (by decide) gL828_0 rfl
      have gL849_1 : jGet L849 1 = some (.int (i32 (n))) := eL849 ▸ jg_ne (by decide) gL828_1 rfl
      have gL849_2 : jGet L849 2 = some (.int (i32 (0))) := eL849 ▸ jg_ne (by decide) gL828_2 rfl
      have gL849_3 : jGet L849 3 = some (.int (i32 (T0 25 (n).toNat))) := eL849 ▸ jg_ne (by decide) gL828_3 rfl
      have gL849_4 : jGet L849 4 = some (.int (i32 (T0 18 (n).toNat))) := eL849 ▸ jg_ne (by decide) gL828_4 rfl
      have gL849_5 : jGet L849 5 = some (.int (i32 (r831))) := eL849 ▸ jg_eq
      refine jx_ar (pc' := 53) (st' := [.int (i32 (8))]) rfl rfl rfl rfl ?_
      refine jx_ld (pc' := 54) (l' := L849) (st' := [.ref 66, .int (i32 (8))]) rfl (jl_aloadn gL849_0) ?_
      refine jr_get (pc' := 57) (i := 81) (v := .int (i32 (nw))) rfl rfl (by decide) (rFv_eq (by decide) (show G829 81 = nw from ((hF834.1 81 rfl).trans (e_nw)))) rfl ?_
      refine jx_mul (pc' := 58) rfl rfl ?_
      refine jx_ld (pc' := 60) (l' := jSto1 L849 6 (.int (i32 ((8 * nw))))) (st' := []) rfl rfl ?_
      obtain ⟨L850, eL850⟩ : ∃ q, q = jSto1 L849 6 (.int (i32 ((8 * nw)))) := ⟨_, rfl⟩
      rw [← eL850]
      have gL850_0 : jGet L850 0 = some (.ref 66) := eL850 ▸ jg_ne (by decide) gL849_0 rfl
      have gL850_1 : jGet L850 1 = some (.int (i32 (n))) := eL850 ▸ jg_ne (by decide) gL849_1 rfl
      have gL850_2 : jGet L850 2 = some (.int (i32 (0))) := eL850 ▸ jg_ne (by decide) gL849_2 rfl
      have gL850_3 : jGet L850 3 = some (.int (i32 (T0 25 (n).toNat))) := eL850 ▸ jg_ne (by decide) gL849_3 rfl
      have gL850_4 : jGet L850 4 = some (.int (i32 (T0 18 (n).toNat))) := eL850 ▸ jg_ne (by decide) gL849_4 rfl
      have gL850_5 : jGet L850 5 = some (.int (i32 (r831))) := eL850 ▸ jg_ne (by decide) gL849_5 rfl
      have gL850_6 : jGet L850 6 = some (.int (i32 ((8 * nw)))) := eL850 ▸ jg_eq
      refine jx_ld (pc' := 61) (l' := L850) (st' := [.ref 66]) rfl (jl_aloadn gL850_0) ?_
      refine jx_ld (pc' := 63) (l' := L850) (st' := [.int (i32 (r831)), .ref 66]) rfl (jl_iload gL850_5) ?_
      refine jx_vr (pc' := 66) (as := [.int (i32 (r831))]) (st := []) rfl rfl rfl rfl ⟨rfl, rfl, Nat.le_of_ble_eq_true rfl⟩ rfl rfl (c_place (dd := d) (hd := by omega) (hW := hW833) (to := r831) (st := st) (e_st := show G829 70 = st from ((hF834.1 70 rfl).trans (e_st))) (lg := lg) (e_lg := show G829 79 = lg from ((hF834.1 79 rfl).trans (e_lg))) (lb := lb2_832) (e_lb := show G829 77 = lb2_832 from (e836))  (h_to := ⟨(Int.le_trans (by decide : (-2147483648 : Int) ≤ -2147483648) b835.1), (Int.le_trans b835.2 (by decide : (2147483647 : Int) ≤ 2147483647))⟩)  (p_0 := by omega) (p_1 := by omega) (p_2 := by omega) (p_3 := by omega)) (fun o V' hq => ?_)
      obtain ⟨G851, A852, st2_853, lg2_854, lb2_855, rfl, rfl, hW856, hF857, hQ858, e859, e860, e861, p862, p863, p864, p865, p866, p867, p868, p869, -⟩ := hq
      have hF871 := Fr_tr hF842 hF857 (Fr_sub (by decide)) (Fr_sub (by decide))
      have hC872 := Fx_tr hC843 hQ858 (by omega)
      have hAl873 := Fx_f hAl844 hF857 (by decide)
      have hBp874 := Fx_f hBp845 hF857 (by decide)
      have sf875 := FA_fr (hF857.2 51 rfl) sf846
      have sf876 := SA_fr (hF857.2 13 rfl) sf847
      have bst2_853 : (-2147483648 : Int) ≤ st2_853 ∧ st2_853 ≤ 2147483647 := e859 ▸ hW856.1 70
      have blg2_854 : (0 : Int) ≤ lg2_854 ∧ lg2_854 ≤ 1 := e860 ▸ hW856.1 79
      have blb2_855 : (-2147483648 : Int) ≤ lb2_855 ∧ lb2_855 ≤ 2147483647 := e861 ▸ hW856.1 77
      refine .inl ⟨rfl, ?_⟩
      have hBo877 : Cd (lg2_854 = 0 ∧ lb2_855 < 19999) (Fx [50] (lb + 1) A A852) := Cd_mk (fun hC => Fx_tr (Cd_ap hBo848 (by omega)) (Cd_ap p868 (by omega)) (by omega))
      refine jx_ld (pc' := 67) (l' := L850) (st' := [.ref 66]) rfl (jl_aloadn gL850_0) ?_
      refine jx_ar (pc' := 69) (st' := [.int (i32 (13)), .ref 66]) rfl rfl rfl rfl ?_
      refine jx_ld (pc' := 70) (l' := L850) (st' := [.int (i32 (T0 25 (n).toNat)), .int (i32 (13)), .ref 66]) rfl (jl_iloadn gL850_3) ?_
      refine jx_vr (pc' := 73) (as := [.int (i32 (13)), .int (i32 (T0 25 (n).toNat))]) (st := []) rfl rfl rfl rfl ⟨rfl, rfl, Nat.le_of_ble_eq_true rfl⟩ rfl rfl (c_emit (dd := d) (hd := by omega) (hW := hW856) (fn := 13) (v := T0 25 (n).toNat) (st := st2_853) (e_st := show G851 70 = st2_853 from (e859)) (lg := lg2_854) (e_lg := show G851 79 = lg2_854 from (e860))  (h_fn := ⟨(by decide), (by decide)⟩) (h_v := ⟨(Int.le_trans (by decide : (-2147483648 : Int) ≤ -2147483648) b824.1), (Int.le_trans b824.2 (by decide : (2147483647 : Int) ≤ 2147483647))⟩)  (p_0 := by omega) (p_1 := by omega)) (fun o V' hq => ?_)
      obtain ⟨G878, A879, st2_880, lg2_881, rfl, rfl, hW882, hF883, hQ884, e885, e886, p887, p888, p889, p890, p891, p892, -⟩ := hq
      have hF894 := Fr_tr hF871 hF883 (Fr_sub (by decide)) (Fr_sub (by decide))
      have hC895 := Fx_tr hC872 hQ884 (by omega)
      have hAl896 := Fx_f hAl873 hF883 (by decide)
      have hBp897 := Fx_f hBp874 hF883 (by decide)
      have sf898 := FA_fr (hF883.2 51 rfl) sf875
      have sf899 := SA_fr (hF883.2 13 rfl) sf876
      have bst2_880 : (-2147483648 : Int) ≤ st2_880 ∧ st2_880 ≤ 2147483647 := e885 ▸ hW882.1 70
      have blg2_881 : (0 : Int) ≤ lg2_881 ∧ lg2_881 ≤ 1 := e886 ▸ hW882.1 79
      refine .inl ⟨rfl, ?_⟩
      have sf900 : Cd (lg2_881 = 0 ∧ lb2_855 < 19999) (PL A879 (st) (st2_853) (r831) (lb2_832) (lb2_855)) := Cd_mk (fun hC => PL_mv (Cg_fx (l0 := lb2_832) (l1 := lb2_855) hQ884 (Fx_f (w := lb2_855 + 1) Fx_rf hF883 (by decide)) (by omega)) (by omega) (Cd_ap p869 (by omega)))
      have hBo901 : Cd (lg2_881 = 0 ∧ lb2_855 < 19999) (Fx [50] (lb + 1) A A879) := Cd_mk (fun hC => Fx_f (Cd_ap hBo877 (by omega)) hF883 (by decide))
      refine jx_ld (pc' := 74) (l' := L850) (st' := [.ref 66]) rfl (jl_aloadn gL850_0) ?_
      refine jx_ar (pc' := 75) (st' := [.int (i32 (4)), .ref 66]) rfl rfl rfl rfl ?_
      refine jx_ld (pc' := 77) (l' := L850) (st' := [.int (i32 (T0 18 (n).toNat)), .int (i32 (4)), .ref 66]) rfl (jl_iload gL850_4) ?_
      refine jx_vr (pc' := 80) (as := [.int (i32 (4)), .int (i32 (T0 18 (n).toNat))]) (st := []) rfl rfl rfl rfl ⟨rfl, rfl, Nat.le_of_ble_eq_true rfl⟩ rfl rfl (c_emit (dd := d) (hd := by omega) (hW := hW882) (fn := 4) (v := T0 18 (n).toNat) (st := st2_880) (e_st := show G878 70 = st2_880 from (e885)) (lg := lg2_881) (e_lg := show G878 79 = lg2_881 from (e886))  (h_fn := ⟨(by decide), (by decide)⟩) (h_v := ⟨(Int.le_trans (by decide : (-2147483648 : Int) ≤ -2147483648) b827.1), (Int.le_trans b827.2 (by decide : (2147483647 : Int) ≤ 2147483647))⟩)  (p_0 := by omega) (p_1 := by omega)) (fun o V' hq => ?_)
      obtain ⟨G902, A903, st2_904, lg2_905, rfl, rfl, hW906, hF907, hQ908, e909, e910, p911, p912, p913, p914, p915, p916, -⟩ := hq
      have hF918 := Fr_tr hF894 hF907 (Fr_sub (by decide)) (Fr_sub (by decide))
      have hC919 := Fx_tr hC895 hQ908 (by omega)
      have hAl920 := Fx_f hAl896 hF907 (by decide)
      have hBp921 := Fx_f hBp897 hF907 (by decide)
      have sf922 := FA_fr (hF907.2 51 rfl) sf898
      have sf923 := SA_fr (hF907.2 13 rfl) sf899
      have bst2_904 : (-2147483648 : Int) ≤ st2_904 ∧ st2_904 ≤ 2147483647 := e909 ▸ hW906.1 70
      have blg2_905 : (0 : Int) ≤ lg2_905 ∧ lg2_905 ≤ 1 := e910 ▸ hW906.1 79
      refine .inl ⟨rfl, ?_⟩
      have sf924 : Cd (lg2_905 = 0 ∧ lb2_855 < 19999) (PL A903 (st) (st2_853) (r831) (lb2_832) (lb2_855)) := Cd_mk (fun hC => PL_mv (Cg_fx (l0 := lb2_832) (l1 := lb2_855) hQ908 (Fx_f (w := lb2_855 + 1) Fx_rf hF907 (by decide)) (by omega)) (by omega) (Cd_ap sf900 (by omega)))
      have sf925 : Cd (lg2_905 = 0 ∧ lb2_855 < 19999) (ST A903 (st2_853) (st2_880) (13) (T0 25 (n).toNat)) := Cd_mk (fun hC => ST_mv (Cg_fx (l0 := 0) (l1 := 0) hQ908 (Fx_f (w := 0 + 1) Fx_rf hF907 (by decide)) (by omega)) (by omega) (Cd_ap p892 (by omega)))
      have hBo926 : Cd (lg2_905 = 0 ∧ lb2_855 < 19999) (Fx [50] (lb + 1) A A903) := Cd_mk (fun hC => Fx_f (Cd_ap hBo901 (by omega)) hF907 (by decide))
      refine jx_ld (pc' := 81) (l' := L850) (st' := [.ref 66]) rfl (jl_aloadn gL850_0) ?_
      refine jx_ar (pc' := 83) (st' := [.int (i32 (13)), .ref 66]) rfl rfl rfl rfl ?_
      refine jx_ld (pc' := 84) (l' := L850) (st' := [.int (i32 (T0 25 (n).toNat)), .int (i32 (13)), .ref 66]) rfl (jl_iloadn gL850_3) ?_
      refine jx_ar (pc' := 85) (st' := [.int (i32 (1)), .int (i32 (T0 25 (n).toNat)), .int (i32 (13)), .ref 66]) rfl rfl rfl rfl ?_
      refine jx_add (pc' := 86) rfl rfl ?_
      refine jx_vr (pc' := 89) (as := [.int (i32 (13)), .int (i32 ((T0 25 (n).toNat + 1)))]) (st := []) rfl rfl rfl rfl ⟨rfl, rfl, Nat.le_of_ble_eq_true rfl⟩ rfl rfl (c_emit (dd := d) (hd := by omega) (hW := hW906) (fn := 13) (v := (T0 25 (n).toNat + 1)) (st := st2_904) (e_st := show G902 70 = st2_904 from (e909)) (lg := lg2_905) (e_lg := show G902 79 = lg2_905 from (e910))  (h_fn := ⟨(by decide), (by decide)⟩) (h_v := ⟨(by omega), (by omega)⟩)  (p_0 := by omega) (p_1 := by omega)) (fun o V' hq => ?_)
      obtain ⟨G927, A928, st2_929, lg2_930, rfl, rfl, hW931, hF932, hQ933, e934, e935, p936, p937, p938, p939, p940, p941, -⟩ := hq
      have hF943 := Fr_tr hF918 hF932 (Fr_sub (by decide)) (Fr_sub (by decide))
      have hC944 := Fx_tr hC919 hQ933 (by omega)
      have hAl945 := Fx_f hAl920 hF932 (by decide)
      have hBp946 := Fx_f hBp921 hF932 (by decide)
      have sf947 := FA_fr (hF932.2 51 rfl) sf922
      have sf948 := SA_fr (hF932.2 13 rfl) sf923
      have bst2_929 : (-2147483648 : Int) ≤ st2_929 ∧ st2_929 ≤ 2147483647 := e934 ▸ hW931.1 70
      have blg2_930 : (0 : Int) ≤ lg2_930 ∧ lg2_930 ≤ 1 := e935 ▸ hW931.1 79
      refine .inl ⟨rfl, ?_⟩
      have sf949 : Cd (lg2_930 = 0 ∧ lb2_855 < 19999) (PL A928 (st) (st2_853) (r831) (lb2_832) (lb2_855)) := Cd_mk (fun hC => PL_mv (Cg_fx (l0 := lb2_832) (l1 := lb2_855) hQ933 (Fx_f (w := lb2_855 + 1) Fx_rf hF932 (by decide)) (by omega)) (by omega) (Cd_ap sf924 (by omega)))
      have sf950 : Cd (lg2_930 = 0 ∧ lb2_855 < 19999) (ST A928 (st2_853) (st2_880) (13) (T0 25 (n).toNat)) := Cd_mk (fun hC => ST_mv (Cg_fx (l0 := 0) (l1 := 0) hQ933 (Fx_f (w := 0 + 1) Fx_rf hF932 (by decide)) (by omega)) (by omega) (Cd_ap sf925 (by omega)))
      have sf951 : Cd (lg2_930 = 0 ∧ lb2_855 < 19999) (ST A928 (st2_880) (st2_904) (4) (T0 18 (n).toNat)) := Cd_mk (fun hC => ST_mv (Cg_fx (l0 := 0) (l1 := 0) hQ933 (Fx_f (w := 0 + 1) Fx_rf hF932 (by decide)) (by omega)) (by omega) (Cd_ap p916 (by omega)))
      have hBo952 : Cd (lg2_930 = 0 ∧ lb2_855 < 19999) (Fx [50] (lb + 1) A A928) := Cd_mk (fun hC => Fx_f (Cd_ap hBo926 (by omega)) hF932 (by decide))
      refine jx_ld (pc' := 90) (l' := L850) (st' := [.ref 66]) rfl (jl_aloadn gL850_0) ?_
      refine jx_ar (pc' := 92) (st' := [.int (i32 (30)), .ref 66]) rfl rfl rfl rfl ?_
      refine jx_vr (pc' := 95) (as := [.int (i32 (30))]) (st := []) rfl rfl rfl rfl ⟨rfl, rfl, Nat.le_of_ble_eq_true rfl⟩ rfl rfl (c_op (dd := d) (hd := by omega) (hW := hW931) (oo := 30) (st := st2_929) (e_st := show G927 70 = st2_929 from (e934)) (lg := lg2_930) (e_lg := show G927 79 = lg2_930 from (e935))  (h_oo := ⟨(by decide), (by decide)⟩)  (p_0 := by omega) (p_1 := by omega)) (fun o V' hq => ?_)
      obtain ⟨G953, A954, st2_955, lg2_956, rfl, rfl, hW957, hF958, hQ959, e960, e961, p962, p963, p964, p965, p966, p967, -⟩ := hq
      have hF969 := Fr_tr hF943 hF958 (Fr_sub (by decide)) (Fr_sub (by decide))
      have hC970 := Fx_tr hC944 hQ959 (by omega)
      have hAl971 := Fx_f hAl945 hF958 (by decide)
      have hBp972 := Fx_f hBp946 hF958 (by decide)
      have sf973 := FA_fr (hF958.2 51 rfl) sf947
      have sf974 := SA_fr (hF958.2 13 rfl) sf948
      have bst2_955 : (-2147483648 : Int) ≤ st2_955 ∧ st2_955 ≤ 2147483647 := e960 ▸ hW957.1 70
      have blg2_956 : (0 : Int) ≤ lg2_956 ∧ lg2_956 ≤ 1 := e961 ▸ hW957.1 79
      refine .inl ⟨rfl, ?_⟩
      have sf975 : Cd (lg2_956 = 0 ∧ lb2_855 < 19999) (PL A954 (st) (st2_853) (r831) (lb2_832) (lb2_855)) := Cd_mk (fun hC => PL_mv (Cg_fx (l0 := lb2_832) (l1 := lb2_855) hQ959 (Fx_f (w := lb2_855 + 1) Fx_rf hF958 (by decide)) (by omega)) (by omega) (Cd_ap sf949 (by omega)))
      have sf976 : Cd (lg2_956 = 0 ∧ lb2_855 < 19999) (ST A954 (st2_853) (st2_880) (13) (T0 25 (n).toNat)) := Cd_mk (fun hC => ST_mv (Cg_fx (l0 := 0) (l1 := 0) hQ959 (Fx_f (w := 0 + 1) Fx_rf hF958 (by decide)) (by omega)) (by omega) (Cd_ap sf950 (by omega)))
      have sf977 : Cd (lg2_956 = 0 ∧ lb2_855 < 19999) (ST A954 (st2_880) (st2_904) (4) (T0 18 (n).toNat)) := Cd_mk (fun hC => ST_mv (Cg_fx (l0 := 0) (l1 := 0) hQ959 (Fx_f (w := 0 + 1) Fx_rf hF958 (by decide)) (by omega)) (by omega) (Cd_ap sf951 (by omega)))
      have sf978 : Cd (lg2_956 = 0 ∧ lb2_855 < 19999) (ST A954 (st2_904) (st2_929) (13) (T0 25 (n).toNat + 1)) := Cd_mk (fun hC => ST_mv (Cg_fx (l0 := 0) (l1 := 0) hQ959 (Fx_f (w := 0 + 1) Fx_rf hF958 (by decide)) (by omega)) (by omega) (Cd_ap p941 (by omega)))
      have hBo979 : Cd (lg2_956 = 0 ∧ lb2_855 < 19999) (Fx [50] (lb + 1) A A954) := Cd_mk (fun hC => Fx_f (Cd_ap hBo952 (by omega)) hF958 (by decide))
      refine jx_ld (pc' := 96) (l' := L850) (st' := [.ref 66]) rfl (jl_aloadn gL850_0) ?_
      refine jx_ar (pc' := 98) (st' := [.int (i32 (13)), .ref 66]) rfl rfl rfl rfl ?_
      refine jx_ld (pc' := 99) (l' := L850) (st' := [.int (i32 (T0 25 (n).toNat)), .int (i32 (13)), .ref 66]) rfl (jl_iloadn gL850_3) ?_
      refine jx_ar (pc' := 100) (st' := [.int (i32 (2)), .int (i32 (T0 25 (n).toNat)), .int (i32 (13)), .ref 66]) rfl rfl rfl rfl ?_
      refine jx_add (pc' := 101) rfl rfl ?_
      refine jx_vr (pc' := 104) (as := [.int (i32 (13)), .int (i32 ((T0 25 (n).toNat + 2)))]) (st := []) rfl rfl rfl rfl ⟨rfl, rfl, Nat.le_of_ble_eq_true rfl⟩ rfl rfl (c_emit (dd := d) (hd := by omega) (hW := hW957) (fn := 13) (v := (T0 25 (n).toNat + 2)) (st := st2_955) (e_st := show G953 70 = st2_955 from (e960)) (lg := lg2_956) (e_lg := show G953 79 = lg2_956 from (e961))  (h_fn := ⟨(by decide), (by decide)⟩) (h_v := ⟨(by omega), (by omega)⟩)  (p_0 := by omega) (p_1 := by omega)) (fun o V' hq => ?_)
      obtain ⟨G980, A981, st2_982, lg2_983, rfl, rfl, hW984, hF985, hQ986, e987, e988, p989, p990, p991, p992, p993, p994, -⟩ := hq
      have hF996 := Fr_tr hF969 hF985 (Fr_sub (by decide)) (Fr_sub (by decide))
      have hC997 := Fx_tr hC970 hQ986 (by omega)
      have hAl998 := Fx_f hAl971 hF985 (by decide)
      have hBp999 := Fx_f hBp972 hF985 (by decide)
      have sf1000 := FA_fr (hF985.2 51 rfl) sf973
      have sf1001 := SA_fr (hF985.2 13 rfl) sf974
      have bst2_982 : (-2147483648 : Int) ≤ st2_982 ∧ st2_982 ≤ 2147483647 := e987 ▸ hW984.1 70
      have blg2_983 : (0 : Int) ≤ lg2_983 ∧ lg2_983 ≤ 1 := e988 ▸ hW984.1 79
      refine .inl ⟨rfl, ?_⟩
      have sf1002 : Cd (lg2_983 = 0 ∧ lb2_855 < 19999) (PL A981 (st) (st2_853) (r831) (lb2_832) (lb2_855)) := Cd_mk (fun hC => PL_mv (Cg_fx (l0 := lb2_832) (l1 := lb2_855) hQ986 (Fx_f (w := lb2_855 + 1) Fx_rf hF985 (by decide)) (by omega)) (by omega) (Cd_ap sf975 (by omega)))
      have sf1003 : Cd (lg2_983 = 0 ∧ lb2_855 < 19999) (ST A981 (st2_853) (st2_880) (13) (T0 25 (n).toNat)) := Cd_mk (fun hC => ST_mv (Cg_fx (l0 := 0) (l1 := 0) hQ986 (Fx_f (w := 0 + 1) Fx_rf hF985 (by decide)) (by omega)) (by omega) (Cd_ap sf976 (by omega)))
      have sf1004 : Cd (lg2_983 = 0 ∧ lb2_855 < 19999) (ST A981 (st2_880) (st2_904) (4) (T0 18 (n).toNat)) := Cd_mk (fun hC => ST_mv (Cg_fx (l0 := 0) (l1 := 0) hQ986 (Fx_f (w := 0 + 1) Fx_rf hF985 (by decide)) (by omega)) (by omega) (Cd_ap sf977 (by omega)))
      have sf1005 : Cd (lg2_983 = 0 ∧ lb2_855 < 19999) (ST A981 (st2_904) (st2_929) (13) (T0 25 (n).toNat + 1)) := Cd_mk (fun hC => ST_mv (Cg_fx (l0 := 0) (l1 := 0) hQ986 (Fx_f (w := 0 + 1) Fx_rf hF985 (by decide)) (by omega)) (by omega) (Cd_ap sf978 (by omega)))
      have sf1006 : Cd (lg2_983 = 0 ∧ lb2_855 < 19999) (ST A981 (st2_929) (st2_955) (15) (30)) := Cd_mk (fun hC => ST_mv (Cg_fx (l0 := 0) (l1 := 0) hQ986 (Fx_f (w := 0 + 1) Fx_rf hF985 (by decide)) (by omega)) (by omega) (Cd_ap p967 (by omega)))
      have hBo1007 : Cd (lg2_983 = 0 ∧ lb2_855 < 19999) (Fx [50] (lb + 1) A A981) := Cd_mk (fun hC => Fx_f (Cd_ap hBo979 (by omega)) hF985 (by decide))
      have hmy : mny T0 n = T0 18 (n).toNat := if_neg (by omega); have hk0 : kid T0 n (0 : Int).toNat = T0 21 (n).toNat := kid_28 (by omega); have hd0 : dpt T0 n (0 : Int).toNat = 3 := rfl
      refine jx_ar (pc' := 105) (st' := [.int (i32 (3))]) rfl rfl rfl rfl ?_
      refine jx_ld (pc' := 107) (l' := jSto1 L850 7 (.int (i32 (3)))) (st' := []) rfl rfl ?_
      obtain ⟨L1008, eL1008⟩ : ∃ q, q = jSto1 L850 7 (.int (i32 (3))) := ⟨_, rfl⟩
      rw [← eL1008]
      have gL1008_0 : jGet L1008 0 = some (.ref 66) := eL1008 ▸ jg_ne (by decide) gL850_0 rfl
      have gL1008_1 : jGet L1008 1 = some (.int (i32 (n))) := eL1008 ▸ jg_ne (by decide) gL850_1 rfl
      have gL1008_2 : jGet L1008 2 = some (.int (i32 (0))) := eL1008 ▸ jg_ne (by decide) gL850_2 rfl
      have gL1008_3 : jGet L1008 3 = some (.int (i32 (T0 25 (n).toNat))) := eL1008 ▸ jg_ne (by decide) gL850_3 rfl
      have gL1008_4 : jGet L1008 4 = some (.int (i32 (T0 18 (n).toNat))) := eL1008 ▸ jg_ne (by decide) gL850_4 rfl
      have gL1008_5 : jGet L1008 5 = some (.int (i32 (r831))) := eL1008 ▸ jg_ne (by decide) gL850_5 rfl
      have gL1008_6 : jGet L1008 6 = some (.int (i32 ((8 * nw)))) := eL1008 ▸ jg_ne (by decide) gL850_6 rfl
      have gL1008_7 : jGet L1008 7 = some (.int (i32 (3))) := eL1008 ▸ jg_eq
      refine jx_ld (pc' := 108) (l' := L1008) (st' := [.ref 66]) rfl (jl_aloadn gL1008_0) ?_
      refine jr_get (pc' := 111) (i := 38) (v := .ref 88) rfl rfl (by decide) rfl rfl ?_
      refine jx_ld (pc' := 112) (l' := L1008) (st' := [.int (i32 (n)), .ref 88]) rfl (jl_iloadn gL1008_1) ?_
      have b1009 : (-2147483648 : Int) ≤ T0 21 (n).toNat ∧ T0 21 (n).toNat ≤ 2147483647 := hWT.2 21 _
      refine jr_ldv (pc' := 113) (i := 21) (m := 7000) (z := n) (y := T0 21 (n).toNat) rfl (by decide) rfl (by decide) (by omega) (by omega) rfl (show A981 21 (n).toNat = T0 21 (n).toNat from (congrFun ((hF985.2 21 rfl).trans ((hF958.2 21 rfl).trans ((hF932.2 21 rfl).trans ((hF907.2 21 rfl).trans ((hF883.2 21 rfl).trans ((hF857.2 21 rfl).trans ((hF834.2 21 rfl).trans (p_0 21 rfl)))))))) _)) ?_
      refine jx_ld (pc' := 115) (l' := jSto1 L1008 8 (.int (i32 (T0 21 (n).toNat)))) (st' := []) rfl rfl ?_
      obtain ⟨L1010, eL1010⟩ : ∃ q, q = jSto1 L1008 8 (.int (i32 (T0 21 (n).toNat))) := ⟨_, rfl⟩
      rw [← eL1010]
      have gL1010_0 : jGet L1010 0 = some (.ref 66) := eL1010 ▸ jg_ne (by decide) gL1008_0 rfl
      have gL1010_1 : jGet L1010 1 = some (.int (i32 (n))) := eL1010 ▸ jg_ne (by decide) gL1008_1 rfl
      have gL1010_2 : jGet L1010 2 = some (.int (i32 (0))) := eL1010 ▸ jg_ne (by decide) gL1008_2 rfl
      have gL1010_3 : jGet L1010 3 = some (.int (i32 (T0 25 (n).toNat))) := eL1010 ▸ jg_ne (by decide) gL1008_3 rfl
      have gL1010_4 : jGet L1010 4 = some (.int (i32 (T0 18 (n).toNat))) := eL1010 ▸ jg_ne (by decide) gL1008_4 rfl
      have gL1010_5 : jGet L1010 5 = some (.int (i32 (r831))) := eL1010 ▸ jg_ne (by decide) gL1008_5 rfl
      have gL1010_6 : jGet L1010 6 = some (.int (i32 ((8 * nw)))) := eL1010 ▸ jg_ne (by decide) gL1008_6 rfl
      have gL1010_7 : jGet L1010 7 = some (.int (i32 (3))) := eL1010 ▸ jg_ne (by decide) gL1008_7 rfl
      have gL1010_8 : jGet L1010 8 = some (.int (i32 (T0 21 (n).toNat))) := eL1010 ▸ jg_eq
      refine jx_ar (pc' := 116) (st' := [.int (i32 (0))]) rfl rfl rfl rfl ?_
      refine jx_ld (pc' := 118) (l' := jSto1 L1010 9 (.int (i32 (0)))) (st' := []) rfl rfl ?_
      obtain ⟨L1011, eL1011⟩ : ∃ q, q = jSto1 L1010 9 (.int (i32 (0))) := ⟨_, rfl⟩
      rw [← eL1011]
      have gL1011_0 : jGet L1011 0 = some (.ref 66) := eL1011 ▸ jg_ne (by decide) gL1010_0 rfl
      have gL1011_1 : jGet L1011 1 = some (.int (i32 (n))) := eL1011 ▸ jg_ne (by decide) gL1010_1 rfl
      have gL1011_2 : jGet L1011 2 = some (.int (i32 (0))) := eL1011 ▸ jg_ne (by decide) gL1010_2 rfl
      have gL1011_3 : jGet L1011 3 = some (.int (i32 (T0 25 (n).toNat))) := eL1011 ▸ jg_ne (by decide) gL1010_3 rfl
      have gL1011_4 : jGet L1011 4 = some (.int (i32 (T0 18 (n).toNat))) := eL1011 ▸ jg_ne (by decide) gL1010_4 rfl
      have gL1011_5 : jGet L1011 5 = some (.int (i32 (r831))) := eL1011 ▸ jg_ne (by decide) gL1010_5 rfl
      have gL1011_6 : jGet L1011 6 = some (.int (i32 ((8 * nw)))) := eL1011 ▸ jg_ne (by decide) gL1010_6 rfl
      have gL1011_7 : jGet L1011 7 = some (.int (i32 (3))) := eL1011 ▸ jg_ne (by decide) gL1010_7 rfl
      have gL1011_8 : jGet L1011 8 = some (.int (i32 (T0 21 (n).toNat))) := eL1011 ▸ jg_ne (by decide) gL1010_8 rfl
      have gL1011_9 : jGet L1011 9 = some (.int (i32 (0))) := eL1011 ▸ jg_eq
      exact c_genPar_at_118_0 (X := X) (k := k) (hN := hN) (d := d) (T0 := T0) (Q := Q) (F := F) (Sn := Sn) (Vs := Vs) (sb := sb) (pb := pb) (c0 := c0) (c1 := c1) (G := G) (A := A) (T := T) (n := n) (hi := hi) (s0 := s0) (s1 := s1) (D := D) (bd := bd) (st := st) (lg := lg) (lb := lb) (nw := nw) (al := al) (fw := fw) (hd := hd) (hW := hW) (e_st := e_st) (e_lg := e_lg) (e_lb := e_lb) (e_nw := e_nw) (e_al := e_al) (e_fw := e_fw) (h_n := h_n) (p_0 := p_0) (p_1 := p_1) (p_2 := p_2) (p_3 := p_3) (p_4 := p_4) (p_5 := p_5) (p_6 := p_6) (p_7 := p_7) (p_8 := p_8) (p_9 := p_9) (p_10 := p_10) (p_11 := p_11) (p_12 := p_12) (p_13 := p_13) (p_14 := p_14) (p_15 := p_15) (p_16 := p_16) (p_17 := p_17) (p_18 := p_18) (p_19 := p_19) (p_20 := p_20) (p_21 := p_21) (p_22 := p_22) (p_23 := p_23) (p_24 := p_24) (p_25 := p_25) (p_26 := p_26) (p_27 := p_27) (p_28 := p_28) (p_29 := p_29) (p_30 := p_30) _ L1011 G980 A981 (T0 25 (n).toNat) (T0 18 (n).toNat) (r831) ((8 * nw)) (3) (T0 21 (n).toNat) (0) (st2_982) (lg2_983) (lb2_855) (fw) ((fun _ => 0)) rfl gL1011_0 gL1011_1 gL1011_2 gL1011_3 gL1011_4 gL1011_5 gL1011_6 gL1011_7 gL1011_8 gL1011_9 hW984 hF996 hC997 hAl998 hBp999 (Cd_mk (fun hC => Cd_ap hBo1007 (by omega))) ((e987)) ((e988)) (((hF985.1 77 rfl).trans ((hF958.1 77 rfl).trans ((hF932.1 77 rfl).trans ((hF907.1 77 rfl).trans ((hF883.1 77 rfl).trans (e861))))))) ((congrFun ((hF985.2 51 rfl).trans ((hF958.2 51 rfl).trans ((hF932.2 51 rfl).trans ((hF907.2 51 rfl).trans ((hF883.2 51 rfl).trans ((hF857.2 51 rfl).trans (hF834.2 51 rfl))))))) _).trans (e_fw)) (((hF985.1 81 rfl).trans ((hF958.1 81 rfl).trans ((hF932.1 81 rfl).trans ((hF907.1 81 rfl).trans ((hF883.1 81 rfl).trans ((hF857.1 81 rfl).trans ((hF834.1 81 rfl).trans (e_nw))))))))) (((hF985.1 89 rfl).trans ((hF958.1 89 rfl).trans ((hF932.1 89 rfl).trans ((hF907.1 89 rfl).trans ((hF883.1 89 rfl).trans ((hF857.1 89 rfl).trans ((hF834.1 89 rfl).trans (e_al))))))))) (by omega) (by omega) (by omega) (by omega) (by omega) (by omega) (by omega) (by omega) (by omega) (by omega) (by omega) (by omega) ((Cd_mk (fun hC => by omega))) (by omega) (by omega) (by omega) (by omega) (by omega) (by omega) (by omega) (by omega) (by omega) (by omega) (by omega) ((Cd_mk (fun hC => (by have hr := Cd_ap p840 (by omega); omega)))) (by omega) (sf1000) (sf1001) ((PE_0 (by omega))) ((PE_0 (by omega))) ((LBd_0 (by omega))) ((Cd_mk (fun hC => (gP1_0 rfl (PL_su (Cd_ap sf1002 (by omega)) (by omega) (by omega)) (by omega) (Cd_ap sf1003 (by omega)) (Cd_ap sf1004 (by omega)) (Cd_ap sf1005 (by omega)) (Cd_ap sf1006 (by omega)) (Cd_ap p994 (by omega)) rfl (by omega)))))
    · have _q := h826
      exact absurd h826 (by omega)
  · have _q := h822
    refine jx_ar (pc' := 12) (st' := [.int (i32 (1))]) rfl rfl rfl rfl ?_
    refine jx_go (tg := 16) rfl rfl ?_
    refine jx_ld (pc' := 17) (l' := jSto1 [(0, .ref 66), (1, .int (i32 (n)))] 2 (.int (i32 (1)))) (st' := []) rfl rfl ?_
    obtain ⟨L1012, eL1012⟩ : ∃ q, q = jSto1 [(0, .ref 66), (1, .int (i32 (n)))] 2 (.int (i32 (1))) := ⟨_, rfl⟩
    rw [← eL1012]
    have gL1012_0 : jGet L1012 0 = some (.ref 66) := eL1012 ▸ jg_ne (by decide) (rfl : jGet [(0, .ref 66), (1, .int (i32 (n)))] 0 = some (.ref 66)) rfl
    have gL1012_1 : jGet L1012 1 = some (.int (i32 (n))) := eL1012 ▸ jg_ne (by decide) (rfl : jGet [(0, .ref 66), (1, .int (i32 (n)))] 1 = some (.int (i32 (n)))) rfl
    have gL1012_2 : jGet L1012 2 = some (.int (i32 (1))) := eL1012 ▸ jg_eq
    refine jx_ld (pc' := 18) (l' := L1012) (st' := [.ref 66]) rfl (jl_aloadn gL1012_0) ?_
    refine jr_get (pc' := 21) (i := 42) (v := .ref 92) rfl rfl (by decide) rfl rfl ?_
    refine jx_ld (pc' := 22) (l' := L1012) (st' := [.int (i32 (n)), .ref 92]) rfl (jl_iloadn gL1012_1) ?_
    have b1013 : (-2147483648 : Int) ≤ T0 25 (n).toNat ∧ T0 25 (n).toNat ≤ 2147483647 := hWT.2 25 _
    refine jr_ldv (pc' := 23) (i := 25) (m := 7000) (z := n) (y := T0 25 (n).toNat) rfl (by decide) rfl (by decide) (by omega) (by omega) rfl (show A 25 (n).toNat = T0 25 (n).toNat from (congrFun (p_0 25 rfl) _)) ?_
    refine jx_ld (pc' := 24) (l' := jSto1 L1012 3 (.int (i32 (T0 25 (n).toNat)))) (st' := []) rfl rfl ?_
    obtain ⟨L1014, eL1014⟩ : ∃ q, q = jSto1 L1012 3 (.int (i32 (T0 25 (n).toNat))) := ⟨_, rfl⟩
    rw [← eL1014]
    have gL1014_0 : jGet L1014 0 = some (.ref 66) := eL1014 ▸ jg_ne (by decide) gL1012_0 rfl
    have gL1014_1 : jGet L1014 1 = some (.int (i32 (n))) := eL1014 ▸ jg_ne (by decide) gL1012_1 rfl
    have gL1014_2 : jGet L1014 2 = some (.int (i32 (1))) := eL1014 ▸ jg_ne (by decide) gL1012_2 rfl
    have gL1014_3 : jGet L1014 3 = some (.int (i32 (T0 25 (n).toNat))) := eL1014 ▸ jg_eq
    refine jx_ld (pc' := 25) (l' := L1014) (st' := [.int (i32 (1))]) rfl (jl_iloadn gL1014_2) ?_
    refine jx_if_eq (pc' := 28) (tg := 37) rfl rfl rfl (by decide) (by decide) (fun h1015 => ?_) (fun h1015 => ?_)
    · have _q := h1015
      exact absurd h1015 (by omega)
    · have _q := h1015
      refine jx_ld (pc' := 29) (l' := L1014) (st' := [.ref 66]) rfl (jl_aloadn gL1014_0) ?_
      refine jr_get (pc' := 32) (i := 37) (v := .ref 87) rfl rfl (by decide) rfl rfl ?_
      refine jx_ld (pc' := 33) (l' := L1014) (st' := [.int (i32 (n)), .ref 87]) rfl (jl_iloadn gL1014_1) ?_
      have b1016 : (-2147483648 : Int) ≤ T0 20 (n).toNat ∧ T0 20 (n).toNat ≤ 2147483647 := hWT.2 20 _
      refine jr_ldv (pc' := 34) (i := 20) (m := 7000) (z := n) (y := T0 20 (n).toNat) rfl (by decide) rfl (by decide) (by omega) (by omega) rfl (show A 20 (n).toNat = T0 20 (n).toNat from (congrFun (p_0 20 rfl) _)) ?_
      refine jx_go (tg := 43) rfl rfl ?_
      refine jx_ld (pc' := 45) (l' := jSto1 L1014 4 (.int (i32 (T0 20 (n).toNat)))) (st' := []) rfl rfl ?_
      obtain ⟨L1017, eL1017⟩ : ∃ q, q = jSto1 L1014 4 (.int (i32 (T0 20 (n).toNat))) := ⟨_, rfl⟩
      rw [← eL1017]
      have gL1017_0 : jGet L1017 0 = some (.ref 66) := eL1017 ▸ jg_ne (by decide) gL1014_0 rfl
      have gL1017_1 : jGet L1017 1 = some (.int (i32 (n))) := eL1017 ▸ jg_ne (by decide) gL1014_1 rfl
      have gL1017_2 : jGet L1017 2 = some (.int (i32 (1))) := eL1017 ▸ jg_ne (by decide) gL1014_2 rfl
      have gL1017_3 : jGet L1017 3 = some (.int (i32 (T0 25 (n).toNat))) := eL1017 ▸ jg_ne (by decide) gL1014_3 rfl
      have gL1017_4 : jGet L1017 4 = some (.int (i32 (T0 20 (n).toNat))) := eL1017 ▸ jg_eq
      refine jx_ld (pc' := 46) (l' := L1017) (st' := [.ref 66]) rfl (jl_aloadn gL1017_0) ?_
      refine jx_vr (pc' := 49) (as := []) (st := []) rfl rfl rfl rfl ⟨rfl, rfl, Nat.le_of_ble_eq_true rfl⟩ rfl rfl (c_label (dd := d) (hd := by omega) (hW := hW)  (lb := lb) (e_lb := show G 77 = lb from (e_lb))    (p_0 := by omega) (p_1 := by omega)) (fun o V' hq => ?_)
      obtain ⟨G1018, A1019, r1020, lb2_1021, rfl, rfl, hW1022, hF1023, b1024, e1025, p1026, p1027, p1028, p1029, -⟩ := hq
      have hF1031 := Fr_tr hF0 hF1023 (Fr_sub (by decide)) (Fr_sub (by decide))
      have hC1032 := Fx_f hC0 hF1023 (by decide)
      have hAl1033 := Fx_f hAl0 hF1023 (by decide)
      have hBp1034 := Fx_f hBp0 hF1023 (by decide)
      have sf1035 := FA_fr (hF1023.2 51 rfl) p_1
      have sf1036 := SA_fr (hF1023.2 13 rfl) p_2
      have blb2_1021 : (-2147483648 : Int) ≤ lb2_1021 ∧ lb2_1021 ≤ 2147483647 := e1025 ▸ hW1022.1 77
      refine .inr ⟨_, rfl, ?_⟩
      have hBo1037 : Cd (lg = 0 ∧ lb2_1021 < 19999) (Fx [50] (lb + 1) A A1019) := Cd_mk (fun hC => Fx_f (Cd_ap hBo0 (by omega)) hF1023 (by decide))
      refine jx_ld (pc' := 51) (l' := jSto1 L1017 5 (.int (i32 (r1020)))) (st' := []) rfl rfl ?_
      obtain ⟨L1038, eL1038⟩ : ∃ q, q = jSto1 L1017 5 (.int (i32 (r1020))) := ⟨_, rfl⟩
      rw [← eL1038]
      have gL1038_0 : jGet L1038 0 = some (.ref 66) := eL1038 ▸ jg_ne (by decide) gL1017_0 rfl
      have gL1038_1 : jGet L1038 1 = some (.int (i32 (n))) := eL1038 ▸ jg_ne (by decide) gL1017_1 rfl
      have gL1038_2 : jGet L1038 2 = some (.int (i32 (1))) := eL1038 ▸ jg_ne (by decide) gL1017_2 rfl
      have gL1038_3 : jGet L1038 3 = some (.int (i32 (T0 25 (n).toNat))) := eL1038 ▸ jg_ne (by decide) gL1017_3 rfl
      have gL1038_4 : jGet L1038 4 = some (.int (i32 (T0 20 (n).toNat))) := eL1038 ▸ jg_ne (by decide) gL1017_4 rfl
      have gL1038_5 : jGet L1038 5 = some (.int (i32 (r1020))) := eL1038 ▸ jg_eq
      refine jx_ar (pc' := 53) (st' := [.int (i32 (8))]) rfl rfl rfl rfl ?_
      refine jx_ld (pc' := 54) (l' := L1038) (st' := [.ref 66, .int (i32 (8))]) rfl (jl_aloadn gL1038_0) ?_
      refine jr_get (pc' := 57) (i := 81) (v := .int (i32 (nw))) rfl rfl (by decide) (rFv_eq (by decide) (show G1018 81 = nw from ((hF1023.1 81 rfl).trans (e_nw)))) rfl ?_
      refine jx_mul (pc' := 58) rfl rfl ?_
      refine jx_ld (pc' := 60) (l' := jSto1 L1038 6 (.int (i32 ((8 * nw))))) (st' := []) rfl rfl ?_
      obtain ⟨L1039, eL1039⟩ : ∃ q, q = jSto1 L1038 6 (.int (i32 ((8 * nw)))) := ⟨_, rfl⟩
      rw [← eL1039]
      have gL1039_0 : jGet L1039 0 = some (.ref 66) := eL1039 ▸ jg_ne (by decide) gL1038_0 rfl
      have gL1039_1 : jGet L1039 1 = some (.int (i32 (n))) := eL1039 ▸ jg_ne (by decide) gL1038_1 rfl
      have gL1039_2 : jGet L1039 2 = some (.int (i32 (1))) := eL1039 ▸ jg_ne (by decide) gL1038_2 rfl
      have gL1039_3 : jGet L1039 3 = some (.int (i32 (T0 25 (n).toNat))) := eL1039 ▸ jg_ne (by decide) gL1038_3 rfl
      have gL1039_4 : jGet L1039 4 = some (.int (i32 (T0 20 (n).toNat))) := eL1039 ▸ jg_ne (by decide) gL1038_4 rfl
      have gL1039_5 : jGet L1039 5 = some (.int (i32 (r1020))) := eL1039 ▸ jg_ne (by decide) gL1038_5 rfl
      have gL1039_6 : jGet L1039 6 = some (.int (i32 ((8 * nw)))) := eL1039 ▸ jg_eq
      refine jx_ld (pc' := 61) (l' := L1039) (st' := [.ref 66]) rfl (jl_aloadn gL1039_0) ?_
      refine jx_ld (pc' := 63) (l' := L1039) (st' := [.int (i32 (r1020)), .ref 66]) rfl (jl_iload gL1039_5) ?_
      refine jx_vr (pc' := 66) (as := [.int (i32 (r1020))]) (st := []) rfl rfl rfl rfl ⟨rfl, rfl, Nat.le_of_ble_eq_true rfl⟩ rfl rfl (c_place (dd := d) (hd := by omega) (hW := hW1022) (to := r1020) (st := st) (e_st := show G1018 70 = st from ((hF1023.1 70 rfl).trans (e_st))) (lg := lg) (e_lg := show G1018 79 = lg from ((hF1023.1 79 rfl).trans (e_lg))) (lb := lb2_1021) (e_lb := show G1018 77 = lb2_1021 from (e1025))  (h_to := ⟨(Int.le_trans (by decide : (-2147483648 : Int) ≤ -2147483648) b1024.1), (Int.le_trans b1024.2 (by decide : (2147483647 : Int) ≤ 2147483647))⟩)  (p_0 := by omega) (p_1 := by omega) (p_2 := by omega) (p_3 := by omega)) (fun o V' hq => ?_)
      obtain ⟨G1040, A1041, st2_1042, lg2_1043, lb2_1044, rfl, rfl, hW1045, hF1046, hQ1047, e1048, e1049, e1050, p1051, p1052, p1053, p1054, p1055, p1056, p1057, p1058, -⟩ := hq
      have hF1060 := Fr_tr hF1031 hF1046 (Fr_sub (by decide)) (Fr_sub (by decide))
      have hC1061 := Fx_tr hC1032 hQ1047 (by omega)
      have hAl1062 := Fx_f hAl1033 hF1046 (by decide)
      have hBp1063 := Fx_f hBp1034 hF1046 (by decide)
      have sf1064 := FA_fr (hF1046.2 51 rfl) sf1035
      have sf1065 := SA_fr (hF1046.2 13 rfl) sf1036
      have bst2_1042 : (-2147483648 : Int) ≤ st2_1042 ∧ st2_1042 ≤ 2147483647 := e1048 ▸ hW1045.1 70
      have blg2_1043 : (0 : Int) ≤ lg2_1043 ∧ lg2_1043 ≤ 1 := e1049 ▸ hW1045.1 79
      have blb2_1044 : (-2147483648 : Int) ≤ lb2_1044 ∧ lb2_1044 ≤ 2147483647 := e1050 ▸ hW1045.1 77
      refine .inl ⟨rfl, ?_⟩
      have hBo1066 : Cd (lg2_1043 = 0 ∧ lb2_1044 < 19999) (Fx [50] (lb + 1) A A1041) := Cd_mk (fun hC => Fx_tr (Cd_ap hBo1037 (by omega)) (Cd_ap p1057 (by omega)) (by omega))
      refine jx_ld (pc' := 67) (l' := L1039) (st' := [.ref 66]) rfl (jl_aloadn gL1039_0) ?_
      refine jx_ar (pc' := 69) (st' := [.int (i32 (13)), .ref 66]) rfl rfl rfl rfl ?_
      refine jx_ld (pc' := 70) (l' := L1039) (st' := [.int (i32 (T0 25 (n).toNat)), .int (i32 (13)), .ref 66]) rfl (jl_iloadn gL1039_3) ?_
      refine jx_vr (pc' := 73) (as := [.int (i32 (13)), .int (i32 (T0 25 (n).toNat))]) (st := []) rfl rfl rfl rfl ⟨rfl, rfl, Nat.le_of_ble_eq_true rfl⟩ rfl rfl (c_emit (dd := d) (hd := by omega) (hW := hW1045) (fn := 13) (v := T0 25 (n).toNat) (st := st2_1042) (e_st := show G1040 70 = st2_1042 from (e1048)) (lg := lg2_1043) (e_lg := show G1040 79 = lg2_1043 from (e1049))  (h_fn := ⟨(by decide), (by decide)⟩) (h_v := ⟨(Int.le_trans (by decide : (-2147483648 : Int) ≤ -2147483648) b1013.1), (Int.le_trans b1013.2 (by decide : (2147483647 : Int) ≤ 2147483647))⟩)  (p_0 := by omega) (p_1 := by omega)) (fun o V' hq => ?_)
      obtain ⟨G1067, A1068, st2_1069, lg2_1070, rfl, rfl, hW1071, hF1072, hQ1073, e1074, e1075, p1076, p1077, p1078, p1079, p1080, p1081, -⟩ := hq
      have hF1083 := Fr_tr hF1060 hF1072 (Fr_sub (by decide)) (Fr_sub (by decide))
      have hC1084 := Fx_tr hC1061 hQ1073 (by omega)
      have hAl1085 := Fx_f hAl1062 hF1072 (by decide)
      have hBp1086 := Fx_f hBp1063 hF1072 (by decide)
      have sf1087 := FA_fr (hF1072.2 51 rfl) sf1064
      have sf1088 := SA_fr (hF1072.2 13 rfl) sf1065
      have bst2_1069 : (-2147483648 : Int) ≤ st2_1069 ∧ st2_1069 ≤ 2147483647 := e1074 ▸ hW1071.1 70
      have blg2_1070 : (0 : Int) ≤ lg2_1070 ∧ lg2_1070 ≤ 1 := e1075 ▸ hW1071.1 79
      refine .inl ⟨rfl, ?_⟩
      have sf1089 : Cd (lg2_1070 = 0 ∧ lb2_1044 < 19999) (PL A1068 (st) (st2_1042) (r1020) (lb2_1021) (lb2_1044)) := Cd_mk (fun hC => PL_mv (Cg_fx (l0 := lb2_1021) (l1 := lb2_1044) hQ1073 (Fx_f (w := lb2_1044 + 1) Fx_rf hF1072 (by decide)) (by omega)) (by omega) (Cd_ap p1058 (by omega)))
      have hBo1090 : Cd (lg2_1070 = 0 ∧ lb2_1044 < 19999) (Fx [50] (lb + 1) A A1068) := Cd_mk (fun hC => Fx_f (Cd_ap hBo1066 (by omega)) hF1072 (by decide))
      refine jx_ld (pc' := 74) (l' := L1039) (st' := [.ref 66]) rfl (jl_aloadn gL1039_0) ?_
      refine jx_ar (pc' := 75) (st' := [.int (i32 (4)), .ref 66]) rfl rfl rfl rfl ?_
      refine jx_ld (pc' := 77) (l' := L1039) (st' := [.int (i32 (T0 20 (n).toNat)), .int (i32 (4)), .ref 66]) rfl (jl_iload gL1039_4) ?_
      refine jx_vr (pc' := 80) (as := [.int (i32 (4)), .int (i32 (T0 20 (n).toNat))]) (st := []) rfl rfl rfl rfl ⟨rfl, rfl, Nat.le_of_ble_eq_true rfl⟩ rfl rfl (c_emit (dd := d) (hd := by omega) (hW := hW1071) (fn := 4) (v := T0 20 (n).toNat) (st := st2_1069) (e_st := show G1067 70 = st2_1069 from (e1074)) (lg := lg2_1070) (e_lg := show G1067 79 = lg2_1070 from (e1075))  (h_fn := ⟨(by decide), (by decide)⟩) (h_v := ⟨(Int.le_trans (by decide : (-2147483648 : Int) ≤ -2147483648) b1016.1), (Int.le_trans b1016.2 (by decide : (2147483647 : Int) ≤ 2147483647))⟩)  (p_0 := by omega) (p_1 := by omega)) (fun o V' hq => ?_)
      obtain ⟨G1091, A1092, st2_1093, lg2_1094, rfl, rfl, hW1095, hF1096, hQ1097, e1098, e1099, p1100, p1101, p1102, p1103, p1104, p1105, -⟩ := hq
      have hF1107 := Fr_tr hF1083 hF1096 (Fr_sub (by decide)) (Fr_sub (by decide))
      have hC1108 := Fx_tr hC1084 hQ1097 (by omega)
      have hAl1109 := Fx_f hAl1085 hF1096 (by decide)
      have hBp1110 := Fx_f hBp1086 hF1096 (by decide)
      have sf1111 := FA_fr (hF1096.2 51 rfl) sf1087
      have sf1112 := SA_fr (hF1096.2 13 rfl) sf1088
      have bst2_1093 : (-2147483648 : Int) ≤ st2_1093 ∧ st2_1093 ≤ 2147483647 := e1098 ▸ hW1095.1 70
      have blg2_1094 : (0 : Int) ≤ lg2_1094 ∧ lg2_1094 ≤ 1 := e1099 ▸ hW1095.1 79
      refine .inl ⟨rfl, ?_⟩
      have sf1113 : Cd (lg2_1094 = 0 ∧ lb2_1044 < 19999) (PL A1092 (st) (st2_1042) (r1020) (lb2_1021) (lb2_1044)) := Cd_mk (fun hC => PL_mv (Cg_fx (l0 := lb2_1021) (l1 := lb2_1044) hQ1097 (Fx_f (w := lb2_1044 + 1) Fx_rf hF1096 (by decide)) (by omega)) (by omega) (Cd_ap sf1089 (by omega)))
      have sf1114 : Cd (lg2_1094 = 0 ∧ lb2_1044 < 19999) (ST A1092 (st2_1042) (st2_1069) (13) (T0 25 (n).toNat)) := Cd_mk (fun hC => ST_mv (Cg_fx (l0 := 0) (l1 := 0) hQ1097 (Fx_f (w := 0 + 1) Fx_rf hF1096 (by decide)) (by omega)) (by omega) (Cd_ap p1081 (by omega)))
      have hBo1115 : Cd (lg2_1094 = 0 ∧ lb2_1044 < 19999) (Fx [50] (lb + 1) A A1092) := Cd_mk (fun hC => Fx_f (Cd_ap hBo1090 (by omega)) hF1096 (by decide))
      refine jx_ld (pc' := 81) (l' := L1039) (st' := [.ref 66]) rfl (jl_aloadn gL1039_0) ?_
      refine jx_ar (pc' := 83) (st' := [.int (i32 (13)), .ref 66]) rfl rfl rfl rfl ?_
      refine jx_ld (pc' := 84) (l' := L1039) (st' := [.int (i32 (T0 25 (n).toNat)), .int (i32 (13)), .ref 66]) rfl (jl_iloadn gL1039_3) ?_
      refine jx_ar (pc' := 85) (st' := [.int (i32 (1)), .int (i32 (T0 25 (n).toNat)), .int (i32 (13)), .ref 66]) rfl rfl rfl rfl ?_
      refine jx_add (pc' := 86) rfl rfl ?_
      refine jx_vr (pc' := 89) (as := [.int (i32 (13)), .int (i32 ((T0 25 (n).toNat + 1)))]) (st := []) rfl rfl rfl rfl ⟨rfl, rfl, Nat.le_of_ble_eq_true rfl⟩ rfl rfl (c_emit (dd := d) (hd := by omega) (hW := hW1095) (fn := 13) (v := (T0 25 (n).toNat + 1)) (st := st2_1093) (e_st := show G1091 70 = st2_1093 from (e1098)) (lg := lg2_1094) (e_lg := show G1091 79 = lg2_1094 from (e1099))  (h_fn := ⟨(by decide), (by decide)⟩) (h_v := ⟨(by omega), (by omega)⟩)  (p_0 := by omega) (p_1 := by omega)) (fun o V' hq => ?_)
      obtain ⟨G1116, A1117, st2_1118, lg2_1119, rfl, rfl, hW1120, hF1121, hQ1122, e1123, e1124, p1125, p1126, p1127, p1128, p1129, p1130, -⟩ := hq
      have hF1132 := Fr_tr hF1107 hF1121 (Fr_sub (by decide)) (Fr_sub (by decide))
      have hC1133 := Fx_tr hC1108 hQ1122 (by omega)
      have hAl1134 := Fx_f hAl1109 hF1121 (by decide)
      have hBp1135 := Fx_f hBp1110 hF1121 (by decide)
      have sf1136 := FA_fr (hF1121.2 51 rfl) sf1111
      have sf1137 := SA_fr (hF1121.2 13 rfl) sf1112
      have bst2_1118 : (-2147483648 : Int) ≤ st2_1118 ∧ st2_1118 ≤ 2147483647 := e1123 ▸ hW1120.1 70
      have blg2_1119 : (0 : Int) ≤ lg2_1119 ∧ lg2_1119 ≤ 1 := e1124 ▸ hW1120.1 79
      refine .inl ⟨rfl, ?_⟩
      have sf1138 : Cd (lg2_1119 = 0 ∧ lb2_1044 < 19999) (PL A1117 (st) (st2_1042) (r1020) (lb2_1021) (lb2_1044)) := Cd_mk (fun hC => PL_mv (Cg_fx (l0 := lb2_1021) (l1 := lb2_1044) hQ1122 (Fx_f (w := lb2_1044 + 1) Fx_rf hF1121 (by decide)) (by omega)) (by omega) (Cd_ap sf1113 (by omega)))
      have sf1139 : Cd (lg2_1119 = 0 ∧ lb2_1044 < 19999) (ST A1117 (st2_1042) (st2_1069) (13) (T0 25 (n).toNat)) := Cd_mk (fun hC => ST_mv (Cg_fx (l0 := 0) (l1 := 0) hQ1122 (Fx_f (w := 0 + 1) Fx_rf hF1121 (by decide)) (by omega)) (by omega) (Cd_ap sf1114 (by omega)))
      have sf1140 : Cd (lg2_1119 = 0 ∧ lb2_1044 < 19999) (ST A1117 (st2_1069) (st2_1093) (4) (T0 20 (n).toNat)) := Cd_mk (fun hC => ST_mv (Cg_fx (l0 := 0) (l1 := 0) hQ1122 (Fx_f (w := 0 + 1) Fx_rf hF1121 (by decide)) (by omega)) (by omega) (Cd_ap p1105 (by omega)))
      have hBo1141 : Cd (lg2_1119 = 0 ∧ lb2_1044 < 19999) (Fx [50] (lb + 1) A A1117) := Cd_mk (fun hC => Fx_f (Cd_ap hBo1115 (by omega)) hF1121 (by decide))
      refine jx_ld (pc' := 90) (l' := L1039) (st' := [.ref 66]) rfl (jl_aloadn gL1039_0) ?_
      refine jx_ar (pc' := 92) (st' := [.int (i32 (30)), .ref 66]) rfl rfl rfl rfl ?_
      refine jx_vr (pc' := 95) (as := [.int (i32 (30))]) (st := []) rfl rfl rfl rfl ⟨rfl, rfl, Nat.le_of_ble_eq_true rfl⟩ rfl rfl (c_op (dd := d) (hd := by omega) (hW := hW1120) (oo := 30) (st := st2_1118) (e_st := show G1116 70 = st2_1118 from (e1123)) (lg := lg2_1119) (e_lg := show G1116 79 = lg2_1119 from (e1124))  (h_oo := ⟨(by decide), (by decide)⟩)  (p_0 := by omega) (p_1 := by omega)) (fun o V' hq => ?_)
      obtain ⟨G1142, A1143, st2_1144, lg2_1145, rfl, rfl, hW1146, hF1147, hQ1148, e1149, e1150, p1151, p1152, p1153, p1154, p1155, p1156, -⟩ := hq
      have hF1158 := Fr_tr hF1132 hF1147 (Fr_sub (by decide)) (Fr_sub (by decide))
      have hC1159 := Fx_tr hC1133 hQ1148 (by omega)
      have hAl1160 := Fx_f hAl1134 hF1147 (by decide)
      have hBp1161 := Fx_f hBp1135 hF1147 (by decide)
      have sf1162 := FA_fr (hF1147.2 51 rfl) sf1136
      have sf1163 := SA_fr (hF1147.2 13 rfl) sf1137
      have bst2_1144 : (-2147483648 : Int) ≤ st2_1144 ∧ st2_1144 ≤ 2147483647 := e1149 ▸ hW1146.1 70
      have blg2_1145 : (0 : Int) ≤ lg2_1145 ∧ lg2_1145 ≤ 1 := e1150 ▸ hW1146.1 79
      refine .inl ⟨rfl, ?_⟩
      have sf1164 : Cd (lg2_1145 = 0 ∧ lb2_1044 < 19999) (PL A1143 (st) (st2_1042) (r1020) (lb2_1021) (lb2_1044)) := Cd_mk (fun hC => PL_mv (Cg_fx (l0 := lb2_1021) (l1 := lb2_1044) hQ1148 (Fx_f (w := lb2_1044 + 1) Fx_rf hF1147 (by decide)) (by omega)) (by omega) (Cd_ap sf1138 (by omega)))
      have sf1165 : Cd (lg2_1145 = 0 ∧ lb2_1044 < 19999) (ST A1143 (st2_1042) (st2_1069) (13) (T0 25 (n).toNat)) := Cd_mk (fun hC => ST_mv (Cg_fx (l0 := 0) (l1 := 0) hQ1148 (Fx_f (w := 0 + 1) Fx_rf hF1147 (by decide)) (by omega)) (by omega) (Cd_ap sf1139 (by omega)))
      have sf1166 : Cd (lg2_1145 = 0 ∧ lb2_1044 < 19999) (ST A1143 (st2_1069) (st2_1093) (4) (T0 20 (n).toNat)) := Cd_mk (fun hC => ST_mv (Cg_fx (l0 := 0) (l1 := 0) hQ1148 (Fx_f (w := 0 + 1) Fx_rf hF1147 (by decide)) (by omega)) (by omega) (Cd_ap sf1140 (by omega)))
      have sf1167 : Cd (lg2_1145 = 0 ∧ lb2_1044 < 19999) (ST A1143 (st2_1093) (st2_1118) (13) (T0 25 (n).toNat + 1)) := Cd_mk (fun hC => ST_mv (Cg_fx (l0 := 0) (l1 := 0) hQ1148 (Fx_f (w := 0 + 1) Fx_rf hF1147 (by decide)) (by omega)) (by omega) (Cd_ap p1130 (by omega)))
      have hBo1168 : Cd (lg2_1145 = 0 ∧ lb2_1044 < 19999) (Fx [50] (lb + 1) A A1143) := Cd_mk (fun hC => Fx_f (Cd_ap hBo1141 (by omega)) hF1147 (by decide))
      refine jx_ld (pc' := 96) (l' := L1039) (st' := [.ref 66]) rfl (jl_aloadn gL1039_0) ?_
      refine jx_ar (pc' := 98) (st' := [.int (i32 (13)), .ref 66]) rfl rfl rfl rfl ?_
      refine jx_ld (pc' := 99) (l' := L1039) (st' := [.int (i32 (T0 25 (n).toNat)), .int (i32 (13)), .ref 66]) rfl (jl_iloadn gL1039_3) ?_
      refine jx_ar (pc' := 100) (st' := [.int (i32 (2)), .int (i32 (T0 25 (n).toNat)), .int (i32 (13)), .ref 66]) rfl rfl rfl rfl ?_
      refine jx_add (pc' := 101) rfl rfl ?_
      refine jx_vr (pc' := 104) (as := [.int (i32 (13)), .int (i32 ((T0 25 (n).toNat + 2)))]) (st := []) rfl rfl rfl rfl ⟨rfl, rfl, Nat.le_of_ble_eq_true rfl⟩ rfl rfl (c_emit (dd := d) (hd := by omega) (hW := hW1146) (fn := 13) (v := (T0 25 (n).toNat + 2)) (st := st2_1144) (e_st := show G1142 70 = st2_1144 from (e1149)) (lg := lg2_1145) (e_lg := show G1142 79 = lg2_1145 from (e1150))  (h_fn := ⟨(by decide), (by decide)⟩) (h_v := ⟨(by omega), (by omega)⟩)  (p_0 := by omega) (p_1 := by omega)) (fun o V' hq => ?_)
      obtain ⟨G1169, A1170, st2_1171, lg2_1172, rfl, rfl, hW1173, hF1174, hQ1175, e1176, e1177, p1178, p1179, p1180, p1181, p1182, p1183, -⟩ := hq
      have hF1185 := Fr_tr hF1158 hF1174 (Fr_sub (by decide)) (Fr_sub (by decide))
      have hC1186 := Fx_tr hC1159 hQ1175 (by omega)
      have hAl1187 := Fx_f hAl1160 hF1174 (by decide)
      have hBp1188 := Fx_f hBp1161 hF1174 (by decide)
      have sf1189 := FA_fr (hF1174.2 51 rfl) sf1162
      have sf1190 := SA_fr (hF1174.2 13 rfl) sf1163
      have bst2_1171 : (-2147483648 : Int) ≤ st2_1171 ∧ st2_1171 ≤ 2147483647 := e1176 ▸ hW1173.1 70
      have blg2_1172 : (0 : Int) ≤ lg2_1172 ∧ lg2_1172 ≤ 1 := e1177 ▸ hW1173.1 79
      refine .inl ⟨rfl, ?_⟩
      have sf1191 : Cd (lg2_1172 = 0 ∧ lb2_1044 < 19999) (PL A1170 (st) (st2_1042) (r1020) (lb2_1021) (lb2_1044)) := Cd_mk (fun hC => PL_mv (Cg_fx (l0 := lb2_1021) (l1 := lb2_1044) hQ1175 (Fx_f (w := lb2_1044 + 1) Fx_rf hF1174 (by decide)) (by omega)) (by omega) (Cd_ap sf1164 (by omega)))
      have sf1192 : Cd (lg2_1172 = 0 ∧ lb2_1044 < 19999) (ST A1170 (st2_1042) (st2_1069) (13) (T0 25 (n).toNat)) := Cd_mk (fun hC => ST_mv (Cg_fx (l0 := 0) (l1 := 0) hQ1175 (Fx_f (w := 0 + 1) Fx_rf hF1174 (by decide)) (by omega)) (by omega) (Cd_ap sf1165 (by omega)))
      have sf1193 : Cd (lg2_1172 = 0 ∧ lb2_1044 < 19999) (ST A1170 (st2_1069) (st2_1093) (4) (T0 20 (n).toNat)) := Cd_mk (fun hC => ST_mv (Cg_fx (l0 := 0) (l1 := 0) hQ1175 (Fx_f (w := 0 + 1) Fx_rf hF1174 (by decide)) (by omega)) (by omega) (Cd_ap sf1166 (by omega)))
      have sf1194 : Cd (lg2_1172 = 0 ∧ lb2_1044 < 19999) (ST A1170 (st2_1093) (st2_1118) (13) (T0 25 (n).toNat + 1)) := Cd_mk (fun hC => ST_mv (Cg_fx (l0 := 0) (l1 := 0) hQ1175 (Fx_f (w := 0 + 1) Fx_rf hF1174 (by decide)) (by omega)) (by omega) (Cd_ap sf1167 (by omega)))
      have sf1195 : Cd (lg2_1172 = 0 ∧ lb2_1044 < 19999) (ST A1170 (st2_1118) (st2_1144) (15) (30)) := Cd_mk (fun hC => ST_mv (Cg_fx (l0 := 0) (l1 := 0) hQ1175 (Fx_f (w := 0 + 1) Fx_rf hF1174 (by decide)) (by omega)) (by omega) (Cd_ap p1156 (by omega)))
      have hBo1196 : Cd (lg2_1172 = 0 ∧ lb2_1044 < 19999) (Fx [50] (lb + 1) A A1170) := Cd_mk (fun hC => Fx_f (Cd_ap hBo1168 (by omega)) hF1174 (by decide))
      have hmy : mny T0 n = T0 20 (n).toNat := if_pos (by omega); have hk0 : kid T0 n (0 : Int).toNat = T0 21 (n).toNat := kid_29 (by omega); have hd0 : dpt T0 n (0 : Int).toNat = 3 := rfl
      refine jx_ar (pc' := 105) (st' := [.int (i32 (3))]) rfl rfl rfl rfl ?_
      refine jx_ld (pc' := 107) (l' := jSto1 L1039 7 (.int (i32 (3)))) (st' := []) rfl rfl ?_
      obtain ⟨L1197, eL1197⟩ : ∃ q, q = jSto1 L1039 7 (.int (i32 (3))) := ⟨_, rfl⟩
      rw [← eL1197]
      have gL1197_0 : jGet L1197 0 = some (.ref 66) := eL1197 ▸ jg_ne (by decide) gL1039_0 rfl
      have gL1197_1 : jGet L1197 1 = some (.int (i32 (n))) := eL1197 ▸ jg_ne (by decide) gL1039_1 rfl
      have gL1197_2 : jGet L1197 2 = some (.int (i32 (1))) := eL1197 ▸ jg_ne (by decide) gL1039_2 rfl
      have gL1197_3 : jGet L1197 3 = some (.int (i32 (T0 25 (n).toNat))) := eL1197 ▸ jg_ne (by decide) gL1039_3 rfl
      have gL1197_4 : jGet L1197 4 = some (.int (i32 (T0 20 (n).toNat))) := eL1197 ▸ jg_ne (by decide) gL1039_4 rfl
      have gL1197_5 : jGet L1197 5 = some (.int (i32 (r1020))) := eL1197 ▸ jg_ne (by decide) gL1039_5 rfl
      have gL1197_6 : jGet L1197 6 = some (.int (i32 ((8 * nw)))) := eL1197 ▸ jg_ne (by decide) gL1039_6 rfl
      have gL1197_7 : jGet L1197 7 = some (.int (i32 (3))) := eL1197 ▸ jg_eq
      refine jx_ld (pc' := 108) (l' := L1197) (st' := [.ref 66]) rfl (jl_aloadn gL1197_0) ?_
      refine jr_get (pc' := 111) (i := 38) (v := .ref 88) rfl rfl (by decide) rfl rfl ?_
      refine jx_ld (pc' := 112) (l' := L1197) (st' := [.int (i32 (n)), .ref 88]) rfl (jl_iloadn gL1197_1) ?_
      have b1198 : (-2147483648 : Int) ≤ T0 21 (n).toNat ∧ T0 21 (n).toNat ≤ 2147483647 := hWT.2 21 _
      refine jr_ldv (pc' := 113) (i := 21) (m := 7000) (z := n) (y := T0 21 (n).toNat) rfl (by decide) rfl (by decide) (by omega) (by omega) rfl (show A1170 21 (n).toNat = T0 21 (n).toNat from (congrFun ((hF1174.2 21 rfl).trans ((hF1147.2 21 rfl).trans ((hF1121.2 21 rfl).trans ((hF1096.2 21 rfl).trans ((hF1072.2 21 rfl).trans ((hF1046.2 21 rfl).trans ((hF1023.2 21 rfl).trans (p_0 21 rfl)))))))) _)) ?_
      refine jx_ld (pc' := 115) (l' := jSto1 L1197 8 (.int (i32 (T0 21 (n).toNat)))) (st' := []) rfl rfl ?_
      obtain ⟨L1199, eL1199⟩ : ∃ q, q = jSto1 L1197 8 (.int (i32 (T0 21 (n).toNat))) := ⟨_, rfl⟩
      rw [← eL1199]
      have gL1199_0 : jGet L1199 0 = some (.ref 66) := eL1199 ▸ jg_ne (by decide) gL1197_0 rfl
      have gL1199_1 : jGet L1199 1 = some (.int (i32 (n))) := eL1199 ▸ jg_ne (by decide) gL1197_1 rfl
      have gL1199_2 : jGet L1199 2 = some (.int (i32 (1))) := eL1199 ▸ jg_ne (by decide) gL1197_2 rfl
      have gL1199_3 : jGet L1199 3 = some (.int (i32 (T0 25 (n).toNat))) := eL1199 ▸ jg_ne (by decide) gL1197_3 rfl
      have gL1199_4 : jGet L1199 4 = some (.int (i32 (T0 20 (n).toNat))) := eL1199 ▸ jg_ne (by decide) gL1197_4 rfl
      have gL1199_5 : jGet L1199 5 = some (.int (i32 (r1020))) := eL1199 ▸ jg_ne (by decide) gL1197_5 rfl
      have gL1199_6 : jGet L1199 6 = some (.int (i32 ((8 * nw)))) := eL1199 ▸ jg_ne (by decide) gL1197_6 rfl
      have gL1199_7 : jGet L1199 7 = some (.int (i32 (3))) := eL1199 ▸ jg_ne (by decide) gL1197_7 rfl
      have gL1199_8 : jGet L1199 8 = some (.int (i32 (T0 21 (n).toNat))) := eL1199 ▸ jg_eq
      refine jx_ar (pc' := 116) (st' := [.int (i32 (0))]) rfl rfl rfl rfl ?_
      refine jx_ld (pc' := 118) (l' := jSto1 L1199 9 (.int (i32 (0)))) (st' := []) rfl rfl ?_
      obtain ⟨L1200, eL1200⟩ : ∃ q, q = jSto1 L1199 9 (.int (i32 (0))) := ⟨_, rfl⟩
      rw [← eL1200]
      have gL1200_0 : jGet L1200 0 = some (.ref 66) := eL1200 ▸ jg_ne (by decide) gL1199_0 rfl
      have gL1200_1 : jGet L1200 1 = some (.int (i32 (n))) := eL1200 ▸ jg_ne (by decide) gL1199_1 rfl
      have gL1200_2 : jGet L1200 2 = some (.int (i32 (1))) := eL1200 ▸ jg_ne (by decide) gL1199_2 rfl
      have gL1200_3 : jGet L1200 3 = some (.int (i32 (T0 25 (n).toNat))) := eL1200 ▸ jg_ne (by decide) gL1199_3 rfl
      have gL1200_4 : jGet L1200 4 = some (.int (i32 (T0 20 (n).toNat))) := eL1200 ▸ jg_ne (by decide) gL1199_4 rfl
      have gL1200_5 : jGet L1200 5 = some (.int (i32 (r1020))) := eL1200 ▸ jg_ne (by decide) gL1199_5 rfl
      have gL1200_6 : jGet L1200 6 = some (.int (i32 ((8 * nw)))) := eL1200 ▸ jg_ne (by decide) gL1199_6 rfl
      have gL1200_7 : jGet L1200 7 = some (.int (i32 (3))) := eL1200 ▸ jg_ne (by decide) gL1199_7 rfl
      have gL1200_8 : jGet L1200 8 = some (.int (i32 (T0 21 (n).toNat))) := eL1200 ▸ jg_ne (by decide) gL1199_8 rfl
      have gL1200_9 : jGet L1200 9 = some (.int (i32 (0))) := eL1200 ▸ jg_eq
      exact c_genPar_at_118_1 (X := X) (k := k) (hN := hN) (d := d) (T0 := T0) (Q := Q) (F := F) (Sn := Sn) (Vs := Vs) (sb := sb) (pb := pb) (c0 := c0) (c1 := c1) (G := G) (A := A) (T := T) (n := n) (hi := hi) (s0 := s0) (s1 := s1) (D := D) (bd := bd) (st := st) (lg := lg) (lb := lb) (nw := nw) (al := al) (fw := fw) (hd := hd) (hW := hW) (e_st := e_st) (e_lg := e_lg) (e_lb := e_lb) (e_nw := e_nw) (e_al := e_al) (e_fw := e_fw) (h_n := h_n) (p_0 := p_0) (p_1 := p_1) (p_2 := p_2) (p_3 := p_3) (p_4 := p_4) (p_5 := p_5) (p_6 := p_6) (p_7 := p_7) (p_8 := p_8) (p_9 := p_9) (p_10 := p_10) (p_11 := p_11) (p_12 := p_12) (p_13 := p_13) (p_14 := p_14) (p_15 := p_15) (p_16 := p_16) (p_17 := p_17) (p_18 := p_18) (p_19 := p_19) (p_20 := p_20) (p_21 := p_21) (p_22 := p_22) (p_23 := p_23) (p_24 := p_24) (p_25 := p_25) (p_26 := p_26) (p_27 := p_27) (p_28 := p_28) (p_29 := p_29) (p_30 := p_30) _ L1200 G1169 A1170 (T0 25 (n).toNat) (T0 20 (n).toNat) (r1020) ((8 * nw)) (3) (T0 21 (n).toNat) (0) (st2_1171) (lg2_1172) (lb2_1044) (fw) ((fun _ => 0)) rfl gL1200_0 gL1200_1 gL1200_2 gL1200_3 gL1200_4 gL1200_5 gL1200_6 gL1200_7 gL1200_8 gL1200_9 hW1173 hF1185 hC1186 hAl1187 hBp1188 (Cd_mk (fun hC => Cd_ap hBo1196 (by omega))) ((e1176)) ((e1177)) (((hF1174.1 77 rfl).trans ((hF1147.1 77 rfl).trans ((hF1121.1 77 rfl).trans ((hF1096.1 77 rfl).trans ((hF1072.1 77 rfl).trans (e1050))))))) ((congrFun ((hF1174.2 51 rfl).trans ((hF1147.2 51 rfl).trans ((hF1121.2 51 rfl).trans ((hF1096.2 51 rfl).trans ((hF1072.2 51 rfl).trans ((hF1046.2 51 rfl).trans (hF1023.2 51 rfl))))))) _).trans (e_fw)) (((hF1174.1 81 rfl).trans ((hF1147.1 81 rfl).trans ((hF1121.1 81 rfl).trans ((hF1096.1 81 rfl).trans ((hF1072.1 81 rfl).trans ((hF1046.1 81 rfl).trans ((hF1023.1 81 rfl).trans (e_nw))))))))) (((hF1174.1 89 rfl).trans ((hF1147.1 89 rfl).trans ((hF1121.1 89 rfl).trans ((hF1096.1 89 rfl).trans ((hF1072.1 89 rfl).trans ((hF1046.1 89 rfl).trans ((hF1023.1 89 rfl).trans (e_al))))))))) (by omega) (by omega) (by omega) (by omega) (by omega) (by omega) (by omega) (by omega) (by omega) (by omega) (by omega) (by omega) ((Cd_mk (fun hC => by omega))) (by omega) (by omega) (by omega) (by omega) (by omega) (by omega) (by omega) (by omega) (by omega) (by omega) (by omega) ((Cd_mk (fun hC => (by have hr := Cd_ap p1029 (by omega); omega)))) (by omega) (sf1189) (sf1190) ((PE_0 (by omega))) ((PE_0 (by omega))) ((LBd_0 (by omega))) ((Cd_mk (fun hC => (gP1_0 rfl (PL_su (Cd_ap sf1191 (by omega)) (by omega) (by omega)) (by omega) (Cd_ap sf1192 (by omega)) (Cd_ap sf1193 (by omega)) (Cd_ap sf1194 (by omega)) (Cd_ap sf1195 (by omega)) (Cd_ap p1183 (by omega)) rfl (by omega)))))
