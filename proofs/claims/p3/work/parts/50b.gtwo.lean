theorem Fx_u {L : List Nat} {w z v : Int} {A A1 A2 : Nat → Nat → Int} {k : Nat} (e : A2 = uA A1 k z.toNat v) (h : Fx L w A A1) (h0 : 0 ≤ z) (hz : w ≤ z) : Fx L w A A2 := by
  subst e
  exact Fx_a h h0 hz
theorem gE_17 {T C : Nat → Nat → Int} {F S : Int → Int} {nw : Int} {n : Nat} {e k k_q l0 l1 a b c d m1 m2 : Int} (h4 : T 15 e.toNat = 4) (ho : T 17 e.toNat = 17) (g1 : l0 ≤ m1) (g2 : m1 ≤ m2) (g3 : m2 ≤ l1) (h1 : gE T C F S nw n (T 18 e.toNat) k a m1 m2) (h2 : JP C a b 10 k_q l0 m1) (h3 : gE T C F S nw n (T 19 e.toNat) b c m2 l1) (s1 : ST C c d 12 0) (s2 : ST C d k_q 12 0) : gE T C F S nw (n + 1) e k k_q l0 l1 := .inr (.inr (.inr (.inr (.inr (.inr (.inl ⟨h4, ho, a, b, c, m1, m2, g1, g2, g3, h1, h2, h3, SQ_c s1 (SQ_c s2 SQ_n)⟩))))))
theorem gE_18 {T C : Nat → Nat → Int} {F S : Int → Int} {nw : Int} {n : Nat} {e k k_q l0 l1 a a_q b c d m1 m2 : Int} (h4 : T 15 e.toNat = 4) (ho : T 17 e.toNat = 18) (g1 : l0 ≤ m1) (g2 : m1 ≤ m2) (g3 : m2 ≤ l1) (h1 : gE T C F S nw n (T 18 e.toNat) k a m1 m2) (s0 : ST C a a_q 12 0) (h2 : JP C a_q b 10 d l0 m1) (h3 : gE T C F S nw n (T 19 e.toNat) b c m2 l1) (s1 : ST C c d 12 0) (s2 : ST C d k_q 12 0) : gE T C F S nw (n + 1) e k k_q l0 l1 := .inr (.inr (.inr (.inr (.inr (.inr (.inr (.inl ⟨h4, ho, a, a_q, b, c, d, m1, m2, g1, g2, g3, h1, s0, h2, h3, s1, s2⟩)))))))
theorem gE_s {T C : Nat → Nat → Int} {F S : Int → Int} {nw : Int} {n : Nat} {e k k_q l0 l1 a b m : Int} (h4 : T 15 e.toNat = 4) (hs : sO T e) (h17 : T 17 e.toNat ≠ 17) (h18 : T 17 e.toNat ≠ 18) (g1 : l0 ≤ m) (g2 : m ≤ l1) (h1 : gE T C F S nw n (T 18 e.toNat) k a l0 m) (h2 : gE T C F S nw n (T 19 e.toNat) a b m l1) (s1 : SQ C (sgn (T 17 e.toNat)) b k_q) : gE T C F S nw (n + 1) e k k_q l0 l1 := .inr (.inr (.inr (.inr (.inr (.inr (.inr (.inr (.inl ⟨h4, hs, h17, h18, a, b, m, g1, g2, h1, h2, s1⟩))))))))
theorem gE_t {T C : Nat → Nat → Int} {F S : Int → Int} {nw : Int} {n : Nat} {e k k_q l0 l1 a b c d m : Int} (h4 : T 15 e.toNat = 4) (hs : ¬ sO T e) (g1 : l0 ≤ m) (g2 : m ≤ l1) (h1 : gE T C F S nw n (T 19 e.toNat) k a l0 m) (s1 : ST C a b 13 (T 25 e.toNat)) (h2 : gE T C F S nw n (T 18 e.toNat) b c m l1) (s2 : ST C c d 7 (T 25 e.toNat)) (s3 : SQ C (sgn (T 17 e.toNat)) d k_q) : gE T C F S nw (n + 1) e k k_q l0 l1 := .inr (.inr (.inr (.inr (.inr (.inr (.inr (.inr (.inr ⟨h4, hs, a, b, c, d, m, g1, g2, h1, s1, h2, s2, s3⟩))))))))
set_option maxRecDepth 20000 in
set_option maxHeartbeats 4000000 in
theorem c_genTwo {X : jX} {k : Nat} (hG : GE X k) {dd : Nat} {T0 : Nat → Nat → Int} {F Sn : Int → Int} {Vs : Nat → Prop} {sb : Int} {c0 c1 : jC} {G : Nat → Int} {A : Nat → Nat → Int} {T : jH} {e : Int} {lo hi : Int} {st lg lb nw : Int} (hd : 2 * k + 7 ≤ dd) (hW : Wk G A) (e_st : G 70 = st) (e_lg : G 79 = lg) (e_lb : G 77 = lb) (e_nw : G 81 = nw) (h_e : (-2147483648 : Int) ≤ e ∧ e ≤ 2147483647) (p_0 : TA T0 A) (p_1 : FA F (nw) A) (p_2 : SA T0 Vs Sn A) (p_3 : VW T0 Vs (nw)) (p_4 : 0 ≤ nw) (p_5 : nw ≤ 39) (p_6 : 0 ≤ st) (p_7 : st ≤ 7000) (p_8 : 0 ≤ lb) (p_9 : lb + (hi - lo) + 7000 - st ≤ 1990000000) (p_10 : 0 ≤ lo) (p_11 : hi ≤ 6999) (p_12 : sb ≤ 202) (p_13 : wE T0 Vs sb (k + 1) (e) (lo) (hi)) (p_14 : (k : Int) ≤ 29) (p_15 : T0 15 (e).toNat = 4) : wk X dd 351 [.ref 66, .int (i32 e)] (rV c0 c1 G A T) (fun o V_q => ∃ (G_q : Nat → Int) (A_q : Nat → Nat → Int) (st2 : Int) (lg2 : Int) (lb2 : Int), V_q = rV c0 c1 G_q A_q T ∧ o = .inl none ∧ Wk G_q A_q ∧ Fr [70, 77, 79] [44, 45, 46, 47, 50] G A G_q A_q ∧ Fx [44, 45, 46, 47] (st) A A_q ∧ G_q 70 = st2 ∧ G_q 79 = lg2 ∧ G_q 77 = lb2 ∧ (st ≤ st2) ∧ (st2 ≤ 7000) ∧ (lg ≤ lg2) ∧ (lg2 ≤ 1) ∧ (lb ≤ lb2) ∧ (Cd (lg2 = 0) (lb2 - lb ≤ st2 - st)) ∧ (lb2 - lb ≤ st2 - st + (hi - lo)) ∧ (Cd (lg2 = 0 ∧ lb2 < 19999) (Fx [50] (lb + 1) A A_q)) ∧ (Cd (lg2 = 0 ∧ lb2 < 19999) (gE T0 A_q F Sn nw (k + 1) (e) (st) (st2) (lb) (lb2))) ∧ True) := by
  obtain ⟨d, rfl⟩ : ∃ d, dd = d + 1 := ⟨dd - 1, by omega⟩
  refine wk_of (e := jm351) rfl (Nat.le_of_ble_eq_true rfl) ?_
  show wj X d jm351 (0, [(0, .ref 66), (1, .int (i32 (e)))], [], rV c0 c1 G A T) _
  have hF0 : Fr [70, 77, 79] [44, 45, 46, 47, 50] G A G A := Fr_rf
  have hC0 : Fx [44, 45, 46, 47] (st) A A := Fx_rf
  have b_st : (-2147483648 : Int) ≤ st ∧ st ≤ 2147483647 := e_st ▸ hW.1 70
  have b_lg : (0 : Int) ≤ lg ∧ lg ≤ 1 := e_lg ▸ hW.1 79
  have b_lb : (-2147483648 : Int) ≤ lb ∧ lb ≤ 2147483647 := e_lb ▸ hW.1 77
  have b_nw : (-2147483648 : Int) ≤ nw ∧ nw ≤ 2147483647 := e_nw ▸ hW.1 81
  have hWT := TA_w hW p_0
  have hBo0 : Cd (lg = 0 ∧ lb < 19999) (Fx [50] (lb + 1) A A) := Cd_mk (fun _ => Fx_rf)
  obtain ⟨m4, g1, g2, g3, g4⟩ := wE_i4 p_13 p_15; have hei := wE_in p_13
  refine jx_ld (pc_q := 1) (l_q := [(0, .ref 66), (1, .int (i32 (e)))]) (st_q := [.ref 66]) rfl (jl_aloadn rfl) ?_
  refine jr_get (pc_q := 4) (i := 34) (v := .ref 84) rfl rfl (by decide) rfl rfl ?_
  refine jx_ld (pc_q := 5) (l_q := [(0, .ref 66), (1, .int (i32 (e)))]) (st_q := [.int (i32 (e)), .ref 84]) rfl (jl_iloadn rfl) ?_
  have b1 : (-2147483648 : Int) ≤ T0 17 (e).toNat ∧ T0 17 (e).toNat ≤ 2147483647 := hWT.2 17 _
  refine jr_ldv (pc_q := 6) (i := 17) (m := 7000) (z := e) (y := T0 17 (e).toNat) rfl (by decide) rfl (by decide) (by omega) (by omega) rfl (show A 17 (e).toNat = T0 17 (e).toNat from (congrFun (p_0 17 rfl) _)) ?_
  refine jx_ld (pc_q := 7) (l_q := jSto1 [(0, .ref 66), (1, .int (i32 (e)))] 2 (.int (i32 (T0 17 (e).toNat)))) (st_q := []) rfl rfl ?_
  obtain ⟨L2, eL2⟩ : ∃ q, q = jSto1 [(0, .ref 66), (1, .int (i32 (e)))] 2 (.int (i32 (T0 17 (e).toNat))) := ⟨_, rfl⟩
  rw [← eL2]
  have gL2_0 : jGet L2 0 = some (.ref 66) := eL2 ▸ jg_ne (by decide) (rfl : jGet [(0, .ref 66), (1, .int (i32 (e)))] 0 = some (.ref 66)) rfl
  have gL2_1 : jGet L2 1 = some (.int (i32 (e))) := eL2 ▸ jg_ne (by decide) (rfl : jGet [(0, .ref 66), (1, .int (i32 (e)))] 1 = some (.int (i32 (e)))) rfl
  have gL2_2 : jGet L2 2 = some (.int (i32 (T0 17 (e).toNat))) := eL2 ▸ jg_eq
  refine jx_ld (pc_q := 8) (l_q := L2) (st_q := [.int (i32 (T0 17 (e).toNat))]) rfl (jl_iloadn gL2_2) ?_
  refine jx_ar (pc_q := 10) (st_q := [.int (i32 (17)), .int (i32 (T0 17 (e).toNat))]) rfl rfl rfl rfl ?_
  refine jx_icmp_eq (pc_q := 13) (tg := 19) rfl rfl rfl (Int.le_trans (by decide : (-2147483648 : Int) ≤ -2147483648) b1.1) (Int.le_trans b1.2 (by decide : (2147483647 : Int) ≤ 2147483647)) (by decide) (by decide) (fun h3 => ?_) (fun h3 => ?_)
  · have _q := h3
    have _q : True := trivial
    refine jx_ld (pc_q := 20) (l_q := L2) (st_q := [.ref 66]) rfl (jl_aloadn gL2_0) ?_
    refine jx_vr (pc_q := 23) (as := []) (st := []) rfl rfl rfl rfl ⟨rfl, rfl, Nat.le_of_ble_eq_true rfl⟩ rfl rfl (c_label (dd := d) (hd := by omega) (hW := hW)  (lb := lb) (e_lb := show G 77 = lb from (e_lb))    (p_0 := by omega) (p_1 := by omega)) (fun o V_q hq => ?_)
    obtain ⟨G4, A5, r6, lb2_7, rfl, rfl, hW8, hF9, b10, e11, p12, p13, p14, p15, -⟩ := hq
    have hF17 := Fr_tr hF0 hF9 (Fr_sub (by decide)) (Fr_sub (by decide))
    have hC18 := Fx_f hC0 hF9 (by decide)
    have blb2_7 : (-2147483648 : Int) ≤ lb2_7 ∧ lb2_7 ≤ 2147483647 := e11 ▸ hW8.1 77
    refine .inr ⟨_, rfl, ?_⟩
    have hBo19 : Cd (lg = 0 ∧ lb2_7 < 19999) (Fx [50] (lb + 1) A A5) := Cd_mk (fun hC => Fx_f (Cd_ap hBo0 (by omega)) hF9 (by decide))
    have _q : True := trivial
    refine jx_ld (pc_q := 24) (l_q := jSto1 L2 3 (.int (i32 (r6)))) (st_q := []) rfl rfl ?_
    obtain ⟨L20, eL20⟩ : ∃ q, q = jSto1 L2 3 (.int (i32 (r6))) := ⟨_, rfl⟩
    rw [← eL20]
    have gL20_0 : jGet L20 0 = some (.ref 66) := eL20 ▸ jg_ne (by decide) gL2_0 rfl
    have gL20_1 : jGet L20 1 = some (.int (i32 (e))) := eL20 ▸ jg_ne (by decide) gL2_1 rfl
    have gL20_2 : jGet L20 2 = some (.int (i32 (T0 17 (e).toNat))) := eL20 ▸ jg_ne (by decide) gL2_2 rfl
    have gL20_3 : jGet L20 3 = some (.int (i32 (r6))) := eL20 ▸ jg_eq
    refine jx_ld (pc_q := 25) (l_q := L20) (st_q := [.ref 66]) rfl (jl_aloadn gL20_0) ?_
    refine jx_ld (pc_q := 26) (l_q := L20) (st_q := [.ref 66, .ref 66]) rfl (jl_aloadn gL20_0) ?_
    refine jr_get (pc_q := 29) (i := 35) (v := .ref 85) rfl rfl (by decide) rfl rfl ?_
    refine jx_ld (pc_q := 30) (l_q := L20) (st_q := [.int (i32 (e)), .ref 85, .ref 66]) rfl (jl_iloadn gL20_1) ?_
    have b21 : (-2147483648 : Int) ≤ T0 18 (e).toNat ∧ T0 18 (e).toNat ≤ 2147483647 := hWT.2 18 _
    refine jr_ldv (pc_q := 31) (i := 18) (m := 7000) (z := e) (y := T0 18 (e).toNat) rfl (by decide) rfl (by decide) (by omega) (by omega) rfl (show A5 18 (e).toNat = T0 18 (e).toNat from (congrFun ((hF9.2 18 rfl).trans (p_0 18 rfl)) _)) ?_
    refine jx_vr (pc_q := 34) (as := [.int (i32 (T0 18 (e).toNat))]) (st := []) rfl rfl rfl rfl ⟨rfl, rfl, Nat.le_of_ble_eq_true rfl⟩ rfl rfl (hG (dd := d) (hd := by omega) (hW := hW8) (e := T0 18 (e).toNat) (lo := lo) (hi := m4) (st := st) (e_st := show G4 70 = st from ((hF9.1 70 rfl).trans (e_st))) (lg := lg) (e_lg := show G4 79 = lg from ((hF9.1 79 rfl).trans (e_lg))) (lb := lb2_7) (e_lb := show G4 77 = lb2_7 from (e11)) (nw := nw) (e_nw := show G4 81 = nw from ((hF9.1 81 rfl).trans (e_nw)))  (h_e := ⟨(Int.le_trans (by decide : (-2147483648 : Int) ≤ -2147483648) b21.1), (Int.le_trans b21.2 (by decide : (2147483647 : Int) ≤ 2147483647))⟩)  (p_0 := (TA_fr hF17 (by decide) p_0)) (p_1 := (FA_fr (hF17.2 51 rfl) p_1)) (p_2 := (SA_fr (hF17.2 13 rfl) p_2)) (p_3 := p_3) (p_4 := by omega) (p_5 := by omega) (p_6 := by omega) (p_7 := by omega) (p_8 := by omega) (p_9 := by omega) (p_10 := by omega) (p_11 := by omega) (p_12 := by omega) (p_13 := g3) (p_14 := by omega)) (fun o V_q hq => ?_)
    obtain ⟨G22, A23, st2_24, lg2_25, lb2_26, rfl, rfl, hW27, hF28, hQ29, e30, e31, e32, p33, p34, p35, p36, p37, p38, p39, p40, p41, -⟩ := hq
    have hF43 := Fr_tr hF17 hF28 (Fr_sub (by decide)) (Fr_sub (by decide))
    have hC44 := Fx_tr hC18 hQ29 (by omega)
    have bst2_24 : (-2147483648 : Int) ≤ st2_24 ∧ st2_24 ≤ 2147483647 := e30 ▸ hW27.1 70
    have blg2_25 : (0 : Int) ≤ lg2_25 ∧ lg2_25 ≤ 1 := e31 ▸ hW27.1 79
    have blb2_26 : (-2147483648 : Int) ≤ lb2_26 ∧ lb2_26 ≤ 2147483647 := e32 ▸ hW27.1 77
    refine .inl ⟨rfl, ?_⟩
    have hBo45 : Cd (lg2_25 = 0 ∧ lb2_26 < 19999) (Fx [50] (lb + 1) A A23) := Cd_mk (fun hC => Fx_tr (Cd_ap hBo19 (by omega)) (Cd_ap p40 (by omega)) (by omega))
    have _q : True := trivial
    refine jx_ld (pc_q := 35) (l_q := L20) (st_q := [.int (i32 (T0 17 (e).toNat))]) rfl (jl_iloadn gL20_2) ?_
    refine jx_ar (pc_q := 37) (st_q := [.int (i32 (18)), .int (i32 (T0 17 (e).toNat))]) rfl rfl rfl rfl ?_
    refine jx_icmp_ne (pc_q := 40) (tg := 47) rfl rfl rfl (Int.le_trans (by decide : (-2147483648 : Int) ≤ -2147483648) b1.1) (Int.le_trans b1.2 (by decide : (2147483647 : Int) ≤ 2147483647)) (by decide) (by decide) (fun h46 => ?_) (fun h46 => ?_)
    · have _q := h46
      refine jx_ld (pc_q := 48) (l_q := L20) (st_q := [.ref 66]) rfl (jl_aloadn gL20_0) ?_
      refine jx_ar (pc_q := 50) (st_q := [.int (i32 (10)), .ref 66]) rfl rfl rfl rfl ?_
      refine jx_ld (pc_q := 51) (l_q := L20) (st_q := [.int (i32 (r6)), .int (i32 (10)), .ref 66]) rfl (jl_iloadn gL20_3) ?_
      refine jx_ar (pc_q := 52) (st_q := [.int (i32 (0)), .int (i32 (r6)), .int (i32 (10)), .ref 66]) rfl rfl rfl rfl ?_
      refine jx_vr (pc_q := 55) (as := [.int (i32 (10)), .int (i32 (r6)), .int (i32 (0))]) (st := []) rfl rfl rfl rfl ⟨rfl, rfl, Nat.le_of_ble_eq_true rfl⟩ rfl rfl (c_way (dd := d) (hd := by omega) (hW := hW27) (fn := 10) (to := r6) (fr := 0) (st := st2_24) (e_st := show G22 70 = st2_24 from (e30)) (lg := lg2_25) (e_lg := show G22 79 = lg2_25 from (e31))  (h_fn := ⟨(by decide), (by decide)⟩) (h_to := ⟨(Int.le_trans (by decide : (-2147483648 : Int) ≤ -2147483648) b10.1), (Int.le_trans b10.2 (by decide : (2147483647 : Int) ≤ 2147483647))⟩) (h_fr := ⟨(by decide), (by decide)⟩)  (p_0 := by omega) (p_1 := by omega)) (fun o V_q hq => ?_)
      obtain ⟨G47, A48, st2_49, lg2_50, rfl, rfl, hW51, hF52, hQ53, e54, e55, p56, p57, p58, p59, p60, p61, -⟩ := hq
      have hF63 := Fr_tr hF43 hF52 (Fr_sub (by decide)) (Fr_sub (by decide))
      have hC64 := Fx_tr hC44 hQ53 (by omega)
      have bst2_49 : (-2147483648 : Int) ≤ st2_49 ∧ st2_49 ≤ 2147483647 := e54 ▸ hW51.1 70
      have blg2_50 : (0 : Int) ≤ lg2_50 ∧ lg2_50 ≤ 1 := e55 ▸ hW51.1 79
      refine .inl ⟨rfl, ?_⟩
      have sf65 : Cd (lg2_50 = 0 ∧ lb2_26 < 19999) (gE T0 A48 F Sn nw (k) (T0 18 (e).toNat) (st) (st2_24) (lb2_7) (lb2_26)) := Cd_mk (fun hC => gE_mv (Cg_fx (l0 := lb2_7) (l1 := lb2_26) hQ53 (Fx_f (w := lb2_26 + 1) Fx_rf hF52 (by decide)) (by omega)) (by omega) (Cd_ap p41 (by omega)))
      have hBo66 : Cd (lg2_50 = 0 ∧ lb2_26 < 19999) (Fx [50] (lb + 1) A A48) := Cd_mk (fun hC => Fx_f (Cd_ap hBo45 (by omega)) hF52 (by decide))
      refine jx_ld (pc_q := 56) (l_q := L20) (st_q := [.ref 66]) rfl (jl_aloadn gL20_0) ?_
      refine jx_ld (pc_q := 57) (l_q := L20) (st_q := [.ref 66, .ref 66]) rfl (jl_aloadn gL20_0) ?_
      refine jr_get (pc_q := 60) (i := 36) (v := .ref 86) rfl rfl (by decide) rfl rfl ?_
      refine jx_ld (pc_q := 61) (l_q := L20) (st_q := [.int (i32 (e)), .ref 86, .ref 66]) rfl (jl_iloadn gL20_1) ?_
      have b67 : (-2147483648 : Int) ≤ T0 19 (e).toNat ∧ T0 19 (e).toNat ≤ 2147483647 := hWT.2 19 _
      refine jr_ldv (pc_q := 62) (i := 19) (m := 7000) (z := e) (y := T0 19 (e).toNat) rfl (by decide) rfl (by decide) (by omega) (by omega) rfl (show A48 19 (e).toNat = T0 19 (e).toNat from (congrFun ((hF52.2 19 rfl).trans ((hF28.2 19 rfl).trans ((hF9.2 19 rfl).trans (p_0 19 rfl)))) _)) ?_
      refine jx_vr (pc_q := 65) (as := [.int (i32 (T0 19 (e).toNat))]) (st := []) rfl rfl rfl rfl ⟨rfl, rfl, Nat.le_of_ble_eq_true rfl⟩ rfl rfl (hG (dd := d) (hd := by omega) (hW := hW51) (e := T0 19 (e).toNat) (lo := m4) (hi := e) (st := st2_49) (e_st := show G47 70 = st2_49 from (e54)) (lg := lg2_50) (e_lg := show G47 79 = lg2_50 from (e55)) (lb := lb2_26) (e_lb := show G47 77 = lb2_26 from ((hF52.1 77 rfl).trans (e32))) (nw := nw) (e_nw := show G47 81 = nw from ((hF52.1 81 rfl).trans ((hF28.1 81 rfl).trans ((hF9.1 81 rfl).trans (e_nw)))))  (h_e := ⟨(Int.le_trans (by decide : (-2147483648 : Int) ≤ -2147483648) b67.1), (Int.le_trans b67.2 (by decide : (2147483647 : Int) ≤ 2147483647))⟩)  (p_0 := (TA_fr hF63 (by decide) p_0)) (p_1 := (FA_fr (hF63.2 51 rfl) p_1)) (p_2 := (SA_fr (hF63.2 13 rfl) p_2)) (p_3 := p_3) (p_4 := by omega) (p_5 := by omega) (p_6 := by omega) (p_7 := by omega) (p_8 := by omega) (p_9 := by omega) (p_10 := by omega) (p_11 := by omega) (p_12 := by omega) (p_13 := g4) (p_14 := by omega)) (fun o V_q hq => ?_)
      obtain ⟨G68, A69, st2_70, lg2_71, lb2_72, rfl, rfl, hW73, hF74, hQ75, e76, e77, e78, p79, p80, p81, p82, p83, p84, p85, p86, p87, -⟩ := hq
      have hF89 := Fr_tr hF63 hF74 (Fr_sub (by decide)) (Fr_sub (by decide))
      have hC90 := Fx_tr hC64 hQ75 (by omega)
      have bst2_70 : (-2147483648 : Int) ≤ st2_70 ∧ st2_70 ≤ 2147483647 := e76 ▸ hW73.1 70
      have blg2_71 : (0 : Int) ≤ lg2_71 ∧ lg2_71 ≤ 1 := e77 ▸ hW73.1 79
      have blb2_72 : (-2147483648 : Int) ≤ lb2_72 ∧ lb2_72 ≤ 2147483647 := e78 ▸ hW73.1 77
      refine .inl ⟨rfl, ?_⟩
      have sf91 : Cd (lg2_71 = 0 ∧ lb2_72 < 19999) (gE T0 A69 F Sn nw (k) (T0 18 (e).toNat) (st) (st2_24) (lb2_7) (lb2_26)) := Cd_mk (fun hC => gE_mv (Cg_fx (l0 := lb2_7) (l1 := lb2_26) hQ75 (Cd_ap p86 (by omega)) (by omega)) (by omega) (Cd_ap sf65 (by omega)))
      have sf92 : Cd (lg2_71 = 0 ∧ lb2_72 < 19999) (WY A69 (st2_24) (st2_49) (10) (r6) (0)) := Cd_mk (fun hC => WY_mv (Cg_fx (l0 := 0) (l1 := 0) hQ75 (Cd_ap p86 (by omega)) (by omega)) (by omega) (Cd_ap p61 (by omega)))
      have hBo93 : Cd (lg2_71 = 0 ∧ lb2_72 < 19999) (Fx [50] (lb + 1) A A69) := Cd_mk (fun hC => Fx_tr (Cd_ap hBo66 (by omega)) (Cd_ap p86 (by omega)) (by omega))
      refine jx_ld (pc_q := 66) (l_q := L20) (st_q := [.ref 66]) rfl (jl_aloadn gL20_0) ?_
      refine jx_ar (pc_q := 68) (st_q := [.int (i32 (12)), .ref 66]) rfl rfl rfl rfl ?_
      refine jx_ar (pc_q := 69) (st_q := [.int (i32 (0)), .int (i32 (12)), .ref 66]) rfl rfl rfl rfl ?_
      refine jx_vr (pc_q := 72) (as := [.int (i32 (12)), .int (i32 (0))]) (st := []) rfl rfl rfl rfl ⟨rfl, rfl, Nat.le_of_ble_eq_true rfl⟩ rfl rfl (c_emit (dd := d) (hd := by omega) (hW := hW73) (fn := 12) (v := 0) (st := st2_70) (e_st := show G68 70 = st2_70 from (e76)) (lg := lg2_71) (e_lg := show G68 79 = lg2_71 from (e77))  (h_fn := ⟨(by decide), (by decide)⟩) (h_v := ⟨(by decide), (by decide)⟩)  (p_0 := by omega) (p_1 := by omega)) (fun o V_q hq => ?_)
      obtain ⟨G94, A95, st2_96, lg2_97, rfl, rfl, hW98, hF99, hQ100, e101, e102, p103, p104, p105, p106, p107, p108, -⟩ := hq
      have hF110 := Fr_tr hF89 hF99 (Fr_sub (by decide)) (Fr_sub (by decide))
      have hC111 := Fx_tr hC90 hQ100 (by omega)
      have bst2_96 : (-2147483648 : Int) ≤ st2_96 ∧ st2_96 ≤ 2147483647 := e101 ▸ hW98.1 70
      have blg2_97 : (0 : Int) ≤ lg2_97 ∧ lg2_97 ≤ 1 := e102 ▸ hW98.1 79
      refine .inl ⟨rfl, ?_⟩
      have sf112 : Cd (lg2_97 = 0 ∧ lb2_72 < 19999) (gE T0 A95 F Sn nw (k) (T0 18 (e).toNat) (st) (st2_24) (lb2_7) (lb2_26)) := Cd_mk (fun hC => gE_mv (Cg_fx (l0 := lb2_7) (l1 := lb2_26) hQ100 (Fx_f (w := lb2_26 + 1) Fx_rf hF99 (by decide)) (by omega)) (by omega) (Cd_ap sf91 (by omega)))
      have sf113 : Cd (lg2_97 = 0 ∧ lb2_72 < 19999) (WY A95 (st2_24) (st2_49) (10) (r6) (0)) := Cd_mk (fun hC => WY_mv (Cg_fx (l0 := 0) (l1 := 0) hQ100 (Fx_f (w := 0 + 1) Fx_rf hF99 (by decide)) (by omega)) (by omega) (Cd_ap sf92 (by omega)))
      have sf114 : Cd (lg2_97 = 0 ∧ lb2_72 < 19999) (gE T0 A95 F Sn nw (k) (T0 19 (e).toNat) (st2_49) (st2_70) (lb2_26) (lb2_72)) := Cd_mk (fun hC => gE_mv (Cg_fx (l0 := lb2_26) (l1 := lb2_72) hQ100 (Fx_f (w := lb2_72 + 1) Fx_rf hF99 (by decide)) (by omega)) (by omega) (Cd_ap p87 (by omega)))
      have hBo115 : Cd (lg2_97 = 0 ∧ lb2_72 < 19999) (Fx [50] (lb + 1) A A95) := Cd_mk (fun hC => Fx_f (Cd_ap hBo93 (by omega)) hF99 (by decide))
      refine jx_ld (pc_q := 73) (l_q := L20) (st_q := [.int (i32 (T0 17 (e).toNat))]) rfl (jl_iloadn gL20_2) ?_
      refine jx_ar (pc_q := 75) (st_q := [.int (i32 (17)), .int (i32 (T0 17 (e).toNat))]) rfl rfl rfl rfl ?_
      refine jx_icmp_ne (pc_q := 78) (tg := 93) rfl rfl rfl (Int.le_trans (by decide : (-2147483648 : Int) ≤ -2147483648) b1.1) (Int.le_trans b1.2 (by decide : (2147483647 : Int) ≤ 2147483647)) (by decide) (by decide) (fun h116 => ?_) (fun h116 => ?_)
      · have _q := h116
        exfalso
        omega
      · have _q := h116
        refine jx_ld (pc_q := 79) (l_q := L20) (st_q := [.ref 66]) rfl (jl_aloadn gL20_0) ?_
        refine jx_ar (pc_q := 81) (st_q := [.int (i32 (12)), .ref 66]) rfl rfl rfl rfl ?_
        refine jx_ar (pc_q := 82) (st_q := [.int (i32 (0)), .int (i32 (12)), .ref 66]) rfl rfl rfl rfl ?_
        refine jx_vr (pc_q := 85) (as := [.int (i32 (12)), .int (i32 (0))]) (st := []) rfl rfl rfl rfl ⟨rfl, rfl, Nat.le_of_ble_eq_true rfl⟩ rfl rfl (c_emit (dd := d) (hd := by omega) (hW := hW98) (fn := 12) (v := 0) (st := st2_96) (e_st := show G94 70 = st2_96 from (e101)) (lg := lg2_97) (e_lg := show G94 79 = lg2_97 from (e102))  (h_fn := ⟨(by decide), (by decide)⟩) (h_v := ⟨(by decide), (by decide)⟩)  (p_0 := by omega) (p_1 := by omega)) (fun o V_q hq => ?_)
        obtain ⟨G117, A118, st2_119, lg2_120, rfl, rfl, hW121, hF122, hQ123, e124, e125, p126, p127, p128, p129, p130, p131, -⟩ := hq
        have hF133 := Fr_tr hF110 hF122 (Fr_sub (by decide)) (Fr_sub (by decide))
        have hC134 := Fx_tr hC111 hQ123 (by omega)
        have bst2_119 : (-2147483648 : Int) ≤ st2_119 ∧ st2_119 ≤ 2147483647 := e124 ▸ hW121.1 70
        have blg2_120 : (0 : Int) ≤ lg2_120 ∧ lg2_120 ≤ 1 := e125 ▸ hW121.1 79
        refine .inl ⟨rfl, ?_⟩
        have sf135 : Cd (lg2_120 = 0 ∧ lb2_72 < 19999) (gE T0 A118 F Sn nw (k) (T0 18 (e).toNat) (st) (st2_24) (lb2_7) (lb2_26)) := Cd_mk (fun hC => gE_mv (Cg_fx (l0 := lb2_7) (l1 := lb2_26) hQ123 (Fx_f (w := lb2_26 + 1) Fx_rf hF122 (by decide)) (by omega)) (by omega) (Cd_ap sf112 (by omega)))
        have sf136 : Cd (lg2_120 = 0 ∧ lb2_72 < 19999) (WY A118 (st2_24) (st2_49) (10) (r6) (0)) := Cd_mk (fun hC => WY_mv (Cg_fx (l0 := 0) (l1 := 0) hQ123 (Fx_f (w := 0 + 1) Fx_rf hF122 (by decide)) (by omega)) (by omega) (Cd_ap sf113 (by omega)))
        have sf137 : Cd (lg2_120 = 0 ∧ lb2_72 < 19999) (gE T0 A118 F Sn nw (k) (T0 19 (e).toNat) (st2_49) (st2_70) (lb2_26) (lb2_72)) := Cd_mk (fun hC => gE_mv (Cg_fx (l0 := lb2_26) (l1 := lb2_72) hQ123 (Fx_f (w := lb2_72 + 1) Fx_rf hF122 (by decide)) (by omega)) (by omega) (Cd_ap sf114 (by omega)))
        have sf138 : Cd (lg2_120 = 0 ∧ lb2_72 < 19999) (ST A118 (st2_70) (st2_96) (12) (0)) := Cd_mk (fun hC => ST_mv (Cg_fx (l0 := 0) (l1 := 0) hQ123 (Fx_f (w := 0 + 1) Fx_rf hF122 (by decide)) (by omega)) (by omega) (Cd_ap p108 (by omega)))
        have hBo139 : Cd (lg2_120 = 0 ∧ lb2_72 < 19999) (Fx [50] (lb + 1) A A118) := Cd_mk (fun hC => Fx_f (Cd_ap hBo115 (by omega)) hF122 (by decide))
        refine jx_ld (pc_q := 86) (l_q := L20) (st_q := [.ref 66]) rfl (jl_aloadn gL20_0) ?_
        refine jx_ld (pc_q := 87) (l_q := L20) (st_q := [.int (i32 (r6)), .ref 66]) rfl (jl_iloadn gL20_3) ?_
        refine jx_vr (pc_q := 90) (as := [.int (i32 (r6))]) (st := []) rfl rfl rfl rfl ⟨rfl, rfl, Nat.le_of_ble_eq_true rfl⟩ rfl rfl (c_set (dd := d) (hd := by omega) (hW := hW121) (l := r6) (st := st2_119) (e_st := show G117 70 = st2_119 from (e124))  (h_l := ⟨(Int.le_trans (by decide : (-2147483648 : Int) ≤ -2147483648) b10.1), (Int.le_trans b10.2 (by decide : (2147483647 : Int) ≤ 2147483647))⟩)  (p_0 := by omega) (p_1 := by omega)) (fun o V_q hq => ?_)
        obtain ⟨G140, A141, ls2_142, rfl, rfl, hW143, hF144, e145, p146, q147⟩ := hq
        have hF148 := Fr_tr hF133 hF144 (Fr_sub (by decide)) (Fr_sub (by decide))
        have hC149 := Fx_f hC134 hF144 (by decide)
        have bls2_142 : (-2147483648 : Int) ≤ ls2_142 ∧ ls2_142 ≤ 2147483647 := e145 ▸ hW143.2 50 _
        refine .inl ⟨rfl, ?_⟩
        have a150 := q147
        have sf151 : Cd (lg2_120 = 0 ∧ lb2_72 < 19999) (gE T0 A141 F Sn nw (k) (T0 18 (e).toNat) (st) (st2_24) (lb2_7) (lb2_26)) := Cd_mk (fun hC => gE_mv (Cg_set (K := st2_24) a150 (by omega) (by have hr := Cd_ap p15 (by omega); omega)) (Int.le_refl _) (Cd_ap sf135 (by omega)))
        have sf152 : Cd (lg2_120 = 0 ∧ lb2_72 < 19999) (WY A141 (st2_24) (st2_49) (10) (r6) (0)) := Cd_mk (fun hC => WY_mv (Cg_set (K := st2_49) (l0 := r6) (l1 := r6) a150 (by omega) (by omega)) (Int.le_refl _) (Cd_ap sf136 (by omega)))
        have sf153 : Cd (lg2_120 = 0 ∧ lb2_72 < 19999) (gE T0 A141 F Sn nw (k) (T0 19 (e).toNat) (st2_49) (st2_70) (lb2_26) (lb2_72)) := Cd_mk (fun hC => gE_mv (Cg_set (K := st2_70) a150 (by omega) (by have hr := Cd_ap p15 (by omega); omega)) (Int.le_refl _) (Cd_ap sf137 (by omega)))
        have sf154 : Cd (lg2_120 = 0 ∧ lb2_72 < 19999) (ST A141 (st2_70) (st2_96) (12) (0)) := Cd_mk (fun hC => ST_mv (Cg_set (K := st2_96) (l0 := r6) (l1 := r6) a150 (by omega) (by omega)) (Int.le_refl _) (Cd_ap sf138 (by omega)))
        have sf155 : Cd (lg2_120 = 0 ∧ lb2_72 < 19999) (ST A141 (st2_96) (st2_119) (12) (0)) := Cd_mk (fun hC => ST_mv (Cg_set (K := st2_119) (l0 := r6) (l1 := r6) a150 (by omega) (by omega)) (Int.le_refl _) (Cd_ap p131 (by omega)))
        have hBo156 : Cd (lg2_120 = 0 ∧ lb2_72 < 19999) (Fx [50] (lb + 1) A A141) := Cd_mk (fun hC => Fx_u a150 (Cd_ap hBo139 (by omega)) (by omega) (by have hr := Cd_ap p15 (by omega); omega))
        refine jx_go (tg := 105) rfl rfl ?_
        refine jx_rt (v := none) rfl rfl rfl rfl rfl rfl ?_
        exact ⟨_, _, st2_119, lg2_120, lb2_72, rfl, rfl, hW143, hF148, hC149, ((hF144.1 70 rfl).trans (e124)), ((hF144.1 79 rfl).trans (e125)), ((hF144.1 77 rfl).trans ((hF122.1 77 rfl).trans ((hF99.1 77 rfl).trans (e78)))), by omega, by omega, by omega, by omega, by omega, (Cd_mk (fun hC => by have := Cd_ap p38 (by omega); have := Cd_ap p84 (by omega); omega)), by omega, (Cd_mk (fun hC => Cd_ap hBo156 (by omega))), (Cd_mk (fun hC => (gE_17 p_15 (by omega) (m1 := lb2_7) (m2 := lb2_26) (by omega) (by omega) (by omega) (Cd_ap sf151 (by omega)) (JP_mk (Cd_ap sf152 (by omega)) (by omega) (by have hr := Cd_ap p15 (by omega); omega) (by have hr := Cd_ap p15 (by omega); omega) ((show A141 50 (r6).toNat = ls2_142 from (e145)).trans (by omega))) (Cd_ap sf153 (by omega)) (Cd_ap sf154 (by omega)) (Cd_ap sf155 (by omega))))), trivial⟩
    · have _q := h46
      exfalso
      omega
  · have _q := h3
    have _q : True := trivial
    refine jx_ld (pc_q := 14) (l_q := L2) (st_q := [.int (i32 (T0 17 (e).toNat))]) rfl (jl_iloadn gL2_2) ?_
    refine jx_ar (pc_q := 16) (st_q := [.int (i32 (18)), .int (i32 (T0 17 (e).toNat))]) rfl rfl rfl rfl ?_
    refine jx_icmp_ne (pc_q := 19) (tg := 106) rfl rfl rfl (Int.le_trans (by decide : (-2147483648 : Int) ≤ -2147483648) b1.1) (Int.le_trans b1.2 (by decide : (2147483647 : Int) ≤ 2147483647)) (by decide) (by decide) (fun h157 => ?_) (fun h157 => ?_)
    · have _q := h157
      refine jx_ld (pc_q := 107) (l_q := L2) (st_q := [.ref 66]) rfl (jl_aloadn gL2_0) ?_
      refine jr_get (pc_q := 110) (i := 32) (v := .ref 82) rfl rfl (by decide) rfl rfl ?_
      refine jx_ld (pc_q := 111) (l_q := L2) (st_q := [.ref 66, .ref 82]) rfl (jl_aloadn gL2_0) ?_
      refine jx_ld (pc_q := 112) (l_q := L2) (st_q := [.ref 66, .ref 66, .ref 82]) rfl (jl_aloadn gL2_0) ?_
      refine jr_get (pc_q := 115) (i := 36) (v := .ref 86) rfl rfl (by decide) rfl rfl ?_
      refine jx_ld (pc_q := 116) (l_q := L2) (st_q := [.int (i32 (e)), .ref 86, .ref 66, .ref 82]) rfl (jl_iloadn gL2_1) ?_
      have b158 : (-2147483648 : Int) ≤ T0 19 (e).toNat ∧ T0 19 (e).toNat ≤ 2147483647 := hWT.2 19 _
      refine jr_ldv (pc_q := 117) (i := 19) (m := 7000) (z := e) (y := T0 19 (e).toNat) rfl (by decide) rfl (by decide) (by omega) (by omega) rfl (show A 19 (e).toNat = T0 19 (e).toNat from (congrFun (p_0 19 rfl) _)) ?_
      refine jx_vr (pc_q := 120) (as := [.int (i32 (T0 19 (e).toNat))]) (st := [.ref 82]) rfl rfl rfl rfl ⟨rfl, rfl, Nat.le_of_ble_eq_true rfl⟩ rfl rfl (c_bare2 (dd := d) (hd := by omega) (hW := hW) (e := T0 19 (e).toNat) (k := k) (lo := m4) (hi := e)  (h_e := ⟨(Int.le_trans (by decide : (-2147483648 : Int) ≤ -2147483648) b158.1), (Int.le_trans b158.2 (by decide : (2147483647 : Int) ≤ 2147483647))⟩)  (p_0 := p_0) (p_1 := by omega) (p_2 := by omega) (p_3 := by omega) (p_4 := g4)) (fun o V_q hq => ?_)
      obtain ⟨r159, rfl, rfl, b160, p161, p162, p163, -⟩ := hq
      refine .inr ⟨_, rfl, ?_⟩
      have _q : True := trivial
      have b165 : (0 : Int) ≤ T0 15 (r159).toNat ∧ T0 15 (r159).toNat ≤ 34 := hWT.2 15 _
      refine jr_ldv (pc_q := 121) (i := 15) (m := 7000) (z := r159) (y := T0 15 (r159).toNat) rfl (by decide) rfl (by decide) (by omega) (by omega) rfl (show A 15 (r159).toNat = T0 15 (r159).toNat from (congrFun (p_0 15 rfl) _)) ?_
      refine jx_st (pc_q := 124) (as := [.int (i32 (T0 15 (r159).toNat))]) (st := []) rfl rfl ⟨rfl, Nat.le_of_ble_eq_true rfl⟩ rfl rfl rfl (c_isPlain2 (dd := d) (hd := by omega) (k := T0 15 (r159).toNat)   (h_k := ⟨(Int.le_trans (by decide : (-2147483648 : Int) ≤ 0) b165.1), (Int.le_trans b165.2 (by decide : (34 : Int) ≤ 2147483647))⟩)  ) (fun o V_q hq => ?_)
      obtain ⟨r166, rfl, rfl, b167, q168⟩ := hq
      refine .inr ⟨_, rfl, ?_⟩
      rcases q168 with ⟨rfl, a169⟩ | ⟨rfl, a170, a171⟩
      · have _q : True := trivial
        refine jx_if_eq (pc_q := 127) (tg := 150) rfl rfl rfl (by decide) (by decide) (fun h172 => ?_) (fun h172 => ?_)
        · have _q := h172
          exact absurd h172 (by omega)
        · have _q := h172
          have hso : sO T0 e := sO_p (r := r159) (by omega) (by omega)
          refine jx_ld (pc_q := 128) (l_q := L2) (st_q := [.ref 66]) rfl (jl_aloadn gL2_0) ?_
          refine jx_ld (pc_q := 129) (l_q := L2) (st_q := [.ref 66, .ref 66]) rfl (jl_aloadn gL2_0) ?_
          refine jr_get (pc_q := 132) (i := 35) (v := .ref 85) rfl rfl (by decide) rfl rfl ?_
          refine jx_ld (pc_q := 133) (l_q := L2) (st_q := [.int (i32 (e)), .ref 85, .ref 66]) rfl (jl_iloadn gL2_1) ?_
          have b173 : (-2147483648 : Int) ≤ T0 18 (e).toNat ∧ T0 18 (e).toNat ≤ 2147483647 := hWT.2 18 _
          refine jr_ldv (pc_q := 134) (i := 18) (m := 7000) (z := e) (y := T0 18 (e).toNat) rfl (by decide) rfl (by decide) (by omega) (by omega) rfl (show A 18 (e).toNat = T0 18 (e).toNat from (congrFun (p_0 18 rfl) _)) ?_
          refine jx_vr (pc_q := 137) (as := [.int (i32 (T0 18 (e).toNat))]) (st := []) rfl rfl rfl rfl ⟨rfl, rfl, Nat.le_of_ble_eq_true rfl⟩ rfl rfl (hG (dd := d) (hd := by omega) (hW := hW) (e := T0 18 (e).toNat) (lo := lo) (hi := m4) (st := st) (e_st := show G 70 = st from (e_st)) (lg := lg) (e_lg := show G 79 = lg from (e_lg)) (lb := lb) (e_lb := show G 77 = lb from (e_lb)) (nw := nw) (e_nw := show G 81 = nw from (e_nw))  (h_e := ⟨(Int.le_trans (by decide : (-2147483648 : Int) ≤ -2147483648) b173.1), (Int.le_trans b173.2 (by decide : (2147483647 : Int) ≤ 2147483647))⟩)  (p_0 := p_0) (p_1 := p_1) (p_2 := p_2) (p_3 := p_3) (p_4 := by omega) (p_5 := by omega) (p_6 := by omega) (p_7 := by omega) (p_8 := by omega) (p_9 := by omega) (p_10 := by omega) (p_11 := by omega) (p_12 := by omega) (p_13 := g3) (p_14 := by omega)) (fun o V_q hq => ?_)
          obtain ⟨G174, A175, st2_176, lg2_177, lb2_178, rfl, rfl, hW179, hF180, hQ181, e182, e183, e184, p185, p186, p187, p188, p189, p190, p191, p192, p193, -⟩ := hq
          have hF195 := Fr_tr hF0 hF180 (Fr_sub (by decide)) (Fr_sub (by decide))
          have hC196 := Fx_tr hC0 hQ181 (by omega)
          have bst2_176 : (-2147483648 : Int) ≤ st2_176 ∧ st2_176 ≤ 2147483647 := e182 ▸ hW179.1 70
          have blg2_177 : (0 : Int) ≤ lg2_177 ∧ lg2_177 ≤ 1 := e183 ▸ hW179.1 79
          have blb2_178 : (-2147483648 : Int) ≤ lb2_178 ∧ lb2_178 ≤ 2147483647 := e184 ▸ hW179.1 77
          refine .inl ⟨rfl, ?_⟩
          have hBo197 : Cd (lg2_177 = 0 ∧ lb2_178 < 19999) (Fx [50] (lb + 1) A A175) := Cd_mk (fun hC => Fx_tr (Cd_ap hBo0 (by omega)) (Cd_ap p192 (by omega)) (by omega))
          have _q : True := trivial
          refine jx_ld (pc_q := 138) (l_q := L2) (st_q := [.ref 66]) rfl (jl_aloadn gL2_0) ?_
          refine jx_ld (pc_q := 139) (l_q := L2) (st_q := [.ref 66, .ref 66]) rfl (jl_aloadn gL2_0) ?_
          refine jr_get (pc_q := 142) (i := 36) (v := .ref 86) rfl rfl (by decide) rfl rfl ?_
          refine jx_ld (pc_q := 143) (l_q := L2) (st_q := [.int (i32 (e)), .ref 86, .ref 66]) rfl (jl_iloadn gL2_1) ?_
          refine jr_ldv (pc_q := 144) (i := 19) (m := 7000) (z := e) (y := T0 19 (e).toNat) rfl (by decide) rfl (by decide) (by omega) (by omega) rfl (show A175 19 (e).toNat = T0 19 (e).toNat from (congrFun ((hF180.2 19 rfl).trans (p_0 19 rfl)) _)) ?_
          refine jx_vr (pc_q := 147) (as := [.int (i32 (T0 19 (e).toNat))]) (st := []) rfl rfl rfl rfl ⟨rfl, rfl, Nat.le_of_ble_eq_true rfl⟩ rfl rfl (hG (dd := d) (hd := by omega) (hW := hW179) (e := T0 19 (e).toNat) (lo := m4) (hi := e) (st := st2_176) (e_st := show G174 70 = st2_176 from (e182)) (lg := lg2_177) (e_lg := show G174 79 = lg2_177 from (e183)) (lb := lb2_178) (e_lb := show G174 77 = lb2_178 from (e184)) (nw := nw) (e_nw := show G174 81 = nw from ((hF180.1 81 rfl).trans (e_nw)))  (h_e := ⟨(Int.le_trans (by decide : (-2147483648 : Int) ≤ -2147483648) b158.1), (Int.le_trans b158.2 (by decide : (2147483647 : Int) ≤ 2147483647))⟩)  (p_0 := (TA_fr hF195 (by decide) p_0)) (p_1 := (FA_fr (hF195.2 51 rfl) p_1)) (p_2 := (SA_fr (hF195.2 13 rfl) p_2)) (p_3 := p_3) (p_4 := by omega) (p_5 := by omega) (p_6 := by omega) (p_7 := by omega) (p_8 := by omega) (p_9 := by omega) (p_10 := by omega) (p_11 := by omega) (p_12 := by omega) (p_13 := g4) (p_14 := by omega)) (fun o V_q hq => ?_)
          obtain ⟨G198, A199, st2_200, lg2_201, lb2_202, rfl, rfl, hW203, hF204, hQ205, e206, e207, e208, p209, p210, p211, p212, p213, p214, p215, p216, p217, -⟩ := hq
          have hF219 := Fr_tr hF195 hF204 (Fr_sub (by decide)) (Fr_sub (by decide))
          have hC220 := Fx_tr hC196 hQ205 (by omega)
          have bst2_200 : (-2147483648 : Int) ≤ st2_200 ∧ st2_200 ≤ 2147483647 := e206 ▸ hW203.1 70
          have blg2_201 : (0 : Int) ≤ lg2_201 ∧ lg2_201 ≤ 1 := e207 ▸ hW203.1 79
          have blb2_202 : (-2147483648 : Int) ≤ lb2_202 ∧ lb2_202 ≤ 2147483647 := e208 ▸ hW203.1 77
          refine .inl ⟨rfl, ?_⟩
          have sf221 : Cd (lg2_201 = 0 ∧ lb2_202 < 19999) (gE T0 A199 F Sn nw (k) (T0 18 (e).toNat) (st) (st2_176) (lb) (lb2_178)) := Cd_mk (fun hC => gE_mv (Cg_fx (l0 := lb) (l1 := lb2_178) hQ205 (Cd_ap p216 (by omega)) (by omega)) (by omega) (Cd_ap p193 (by omega)))
          have hBo222 : Cd (lg2_201 = 0 ∧ lb2_202 < 19999) (Fx [50] (lb + 1) A A199) := Cd_mk (fun hC => Fx_tr (Cd_ap hBo197 (by omega)) (Cd_ap p216 (by omega)) (by omega))
          refine jx_go (tg := 191) rfl rfl ?_
          refine jx_ld (pc_q := 192) (l_q := L2) (st_q := [.ref 66]) rfl (jl_aloadn gL2_0) ?_
          refine jx_ld (pc_q := 193) (l_q := L2) (st_q := [.int (i32 (T0 17 (e).toNat)), .ref 66]) rfl (jl_iloadn gL2_2) ?_
          refine jx_vr (pc_q := 196) (as := [.int (i32 (T0 17 (e).toNat))]) (st := []) rfl rfl rfl rfl ⟨rfl, rfl, Nat.le_of_ble_eq_true rfl⟩ rfl rfl (c_genSign (dd := d) (hd := by omega) (hW := hW203) (oo := T0 17 (e).toNat) (st := st2_200) (e_st := show G198 70 = st2_200 from (e206)) (lg := lg2_201) (e_lg := show G198 79 = lg2_201 from (e207))  (h_oo := ⟨(Int.le_trans (by decide : (-2147483648 : Int) ≤ -2147483648) b1.1), (Int.le_trans b1.2 (by decide : (2147483647 : Int) ≤ 2147483647))⟩)  (p_0 := by omega) (p_1 := by omega)) (fun o V_q hq => ?_)
          obtain ⟨G223, A224, st2_225, lg2_226, rfl, rfl, hW227, hF228, hQ229, e230, e231, p232, p233, p234, p235, -⟩ := hq
          have hF237 := Fr_tr hF219 hF228 (Fr_sub (by decide)) (Fr_sub (by decide))
          have hC238 := Fx_tr hC220 hQ229 (by omega)
          have bst2_225 : (-2147483648 : Int) ≤ st2_225 ∧ st2_225 ≤ 2147483647 := e230 ▸ hW227.1 70
          have blg2_226 : (0 : Int) ≤ lg2_226 ∧ lg2_226 ≤ 1 := e231 ▸ hW227.1 79
          refine .inl ⟨rfl, ?_⟩
          have sf239 : Cd (lg2_226 = 0 ∧ lb2_202 < 19999) (gE T0 A224 F Sn nw (k) (T0 18 (e).toNat) (st) (st2_176) (lb) (lb2_178)) := Cd_mk (fun hC => gE_mv (Cg_fx (l0 := lb) (l1 := lb2_178) hQ229 (Fx_f (w := lb2_178 + 1) Fx_rf hF228 (by decide)) (by omega)) (by omega) (Cd_ap sf221 (by omega)))
          have sf240 : Cd (lg2_226 = 0 ∧ lb2_202 < 19999) (gE T0 A224 F Sn nw (k) (T0 19 (e).toNat) (st2_176) (st2_200) (lb2_178) (lb2_202)) := Cd_mk (fun hC => gE_mv (Cg_fx (l0 := lb2_178) (l1 := lb2_202) hQ229 (Fx_f (w := lb2_202 + 1) Fx_rf hF228 (by decide)) (by omega)) (by omega) (Cd_ap p217 (by omega)))
          have hBo241 : Cd (lg2_226 = 0 ∧ lb2_202 < 19999) (Fx [50] (lb + 1) A A224) := Cd_mk (fun hC => Fx_f (Cd_ap hBo222 (by omega)) hF228 (by decide))
          refine jx_rt (v := none) rfl rfl rfl rfl rfl rfl ?_
          exact ⟨_, _, st2_225, lg2_226, lb2_202, rfl, rfl, hW227, hF237, hC238, (e230), (e231), ((hF228.1 77 rfl).trans (e208)), by omega, by omega, by omega, by omega, by omega, (Cd_mk (fun hC => by have := Cd_ap p190 (by omega); have := Cd_ap p214 (by omega); omega)), by omega, (Cd_mk (fun hC => Cd_ap hBo241 (by omega))), (Cd_mk (fun hC => (gE_s p_15 hso (by omega) (by omega) (m := lb2_178) (by omega) (by omega) (Cd_ap sf239 (by omega)) (Cd_ap sf240 (by omega)) (Cd_ap p235 (by omega))))), trivial⟩
      · have _q : True := trivial
        refine jx_if_eq (pc_q := 127) (tg := 150) rfl rfl rfl (by decide) (by decide) (fun h242 => ?_) (fun h242 => ?_)
        · have _q := h242
          have hno : ¬ sO T0 e := nO_p (r := r159) (by omega) (by omega) (by omega) (by omega)
          refine jx_ld (pc_q := 151) (l_q := L2) (st_q := [.ref 66]) rfl (jl_aloadn gL2_0) ?_
          refine jr_get (pc_q := 154) (i := 42) (v := .ref 92) rfl rfl (by decide) rfl rfl ?_
          refine jx_ld (pc_q := 155) (l_q := L2) (st_q := [.int (i32 (e)), .ref 92]) rfl (jl_iloadn gL2_1) ?_
          have b243 : (-2147483648 : Int) ≤ T0 25 (e).toNat ∧ T0 25 (e).toNat ≤ 2147483647 := hWT.2 25 _
          refine jr_ldv (pc_q := 156) (i := 25) (m := 7000) (z := e) (y := T0 25 (e).toNat) rfl (by decide) rfl (by decide) (by omega) (by omega) rfl (show A 25 (e).toNat = T0 25 (e).toNat from (congrFun (p_0 25 rfl) _)) ?_
          refine jx_ld (pc_q := 157) (l_q := jSto1 L2 3 (.int (i32 (T0 25 (e).toNat)))) (st_q := []) rfl rfl ?_
          obtain ⟨L244, eL244⟩ : ∃ q, q = jSto1 L2 3 (.int (i32 (T0 25 (e).toNat))) := ⟨_, rfl⟩
          rw [← eL244]
          have gL244_0 : jGet L244 0 = some (.ref 66) := eL244 ▸ jg_ne (by decide) gL2_0 rfl
          have gL244_1 : jGet L244 1 = some (.int (i32 (e))) := eL244 ▸ jg_ne (by decide) gL2_1 rfl
          have gL244_2 : jGet L244 2 = some (.int (i32 (T0 17 (e).toNat))) := eL244 ▸ jg_ne (by decide) gL2_2 rfl
          have gL244_3 : jGet L244 3 = some (.int (i32 (T0 25 (e).toNat))) := eL244 ▸ jg_eq
          refine jx_ld (pc_q := 158) (l_q := L244) (st_q := [.ref 66]) rfl (jl_aloadn gL244_0) ?_
          refine jx_ld (pc_q := 159) (l_q := L244) (st_q := [.ref 66, .ref 66]) rfl (jl_aloadn gL244_0) ?_
          refine jr_get (pc_q := 162) (i := 36) (v := .ref 86) rfl rfl (by decide) rfl rfl ?_
          refine jx_ld (pc_q := 163) (l_q := L244) (st_q := [.int (i32 (e)), .ref 86, .ref 66]) rfl (jl_iloadn gL244_1) ?_
          refine jr_ldv (pc_q := 164) (i := 19) (m := 7000) (z := e) (y := T0 19 (e).toNat) rfl (by decide) rfl (by decide) (by omega) (by omega) rfl (show A 19 (e).toNat = T0 19 (e).toNat from (congrFun (p_0 19 rfl) _)) ?_
          refine jx_vr (pc_q := 167) (as := [.int (i32 (T0 19 (e).toNat))]) (st := []) rfl rfl rfl rfl ⟨rfl, rfl, Nat.le_of_ble_eq_true rfl⟩ rfl rfl (hG (dd := d) (hd := by omega) (hW := hW) (e := T0 19 (e).toNat) (lo := m4) (hi := e) (st := st) (e_st := show G 70 = st from (e_st)) (lg := lg) (e_lg := show G 79 = lg from (e_lg)) (lb := lb) (e_lb := show G 77 = lb from (e_lb)) (nw := nw) (e_nw := show G 81 = nw from (e_nw))  (h_e := ⟨(Int.le_trans (by decide : (-2147483648 : Int) ≤ -2147483648) b158.1), (Int.le_trans b158.2 (by decide : (2147483647 : Int) ≤ 2147483647))⟩)  (p_0 := p_0) (p_1 := p_1) (p_2 := p_2) (p_3 := p_3) (p_4 := by omega) (p_5 := by omega) (p_6 := by omega) (p_7 := by omega) (p_8 := by omega) (p_9 := by omega) (p_10 := by omega) (p_11 := by omega) (p_12 := by omega) (p_13 := g4) (p_14 := by omega)) (fun o V_q hq => ?_)
          obtain ⟨G245, A246, st2_247, lg2_248, lb2_249, rfl, rfl, hW250, hF251, hQ252, e253, e254, e255, p256, p257, p258, p259, p260, p261, p262, p263, p264, -⟩ := hq
          have hF266 := Fr_tr hF0 hF251 (Fr_sub (by decide)) (Fr_sub (by decide))
          have hC267 := Fx_tr hC0 hQ252 (by omega)
          have bst2_247 : (-2147483648 : Int) ≤ st2_247 ∧ st2_247 ≤ 2147483647 := e253 ▸ hW250.1 70
          have blg2_248 : (0 : Int) ≤ lg2_248 ∧ lg2_248 ≤ 1 := e254 ▸ hW250.1 79
          have blb2_249 : (-2147483648 : Int) ≤ lb2_249 ∧ lb2_249 ≤ 2147483647 := e255 ▸ hW250.1 77
          refine .inl ⟨rfl, ?_⟩
          have hBo268 : Cd (lg2_248 = 0 ∧ lb2_249 < 19999) (Fx [50] (lb + 1) A A246) := Cd_mk (fun hC => Fx_tr (Cd_ap hBo0 (by omega)) (Cd_ap p263 (by omega)) (by omega))
          have _q : True := trivial
          refine jx_ld (pc_q := 168) (l_q := L244) (st_q := [.ref 66]) rfl (jl_aloadn gL244_0) ?_
          refine jx_ar (pc_q := 170) (st_q := [.int (i32 (13)), .ref 66]) rfl rfl rfl rfl ?_
          refine jx_ld (pc_q := 171) (l_q := L244) (st_q := [.int (i32 (T0 25 (e).toNat)), .int (i32 (13)), .ref 66]) rfl (jl_iloadn gL244_3) ?_
          refine jx_vr (pc_q := 174) (as := [.int (i32 (13)), .int (i32 (T0 25 (e).toNat))]) (st := []) rfl rfl rfl rfl ⟨rfl, rfl, Nat.le_of_ble_eq_true rfl⟩ rfl rfl (c_emit (dd := d) (hd := by omega) (hW := hW250) (fn := 13) (v := T0 25 (e).toNat) (st := st2_247) (e_st := show G245 70 = st2_247 from (e253)) (lg := lg2_248) (e_lg := show G245 79 = lg2_248 from (e254))  (h_fn := ⟨(by decide), (by decide)⟩) (h_v := ⟨(Int.le_trans (by decide : (-2147483648 : Int) ≤ -2147483648) b243.1), (Int.le_trans b243.2 (by decide : (2147483647 : Int) ≤ 2147483647))⟩)  (p_0 := by omega) (p_1 := by omega)) (fun o V_q hq => ?_)
          obtain ⟨G269, A270, st2_271, lg2_272, rfl, rfl, hW273, hF274, hQ275, e276, e277, p278, p279, p280, p281, p282, p283, -⟩ := hq
          have hF285 := Fr_tr hF266 hF274 (Fr_sub (by decide)) (Fr_sub (by decide))
          have hC286 := Fx_tr hC267 hQ275 (by omega)
          have bst2_271 : (-2147483648 : Int) ≤ st2_271 ∧ st2_271 ≤ 2147483647 := e276 ▸ hW273.1 70
          have blg2_272 : (0 : Int) ≤ lg2_272 ∧ lg2_272 ≤ 1 := e277 ▸ hW273.1 79
          refine .inl ⟨rfl, ?_⟩
          have sf287 : Cd (lg2_272 = 0 ∧ lb2_249 < 19999) (gE T0 A270 F Sn nw (k) (T0 19 (e).toNat) (st) (st2_247) (lb) (lb2_249)) := Cd_mk (fun hC => gE_mv (Cg_fx (l0 := lb) (l1 := lb2_249) hQ275 (Fx_f (w := lb2_249 + 1) Fx_rf hF274 (by decide)) (by omega)) (by omega) (Cd_ap p264 (by omega)))
          have hBo288 : Cd (lg2_272 = 0 ∧ lb2_249 < 19999) (Fx [50] (lb + 1) A A270) := Cd_mk (fun hC => Fx_f (Cd_ap hBo268 (by omega)) hF274 (by decide))
          refine jx_ld (pc_q := 175) (l_q := L244) (st_q := [.ref 66]) rfl (jl_aloadn gL244_0) ?_
          refine jx_ld (pc_q := 176) (l_q := L244) (st_q := [.ref 66, .ref 66]) rfl (jl_aloadn gL244_0) ?_
          refine jr_get (pc_q := 179) (i := 35) (v := .ref 85) rfl rfl (by decide) rfl rfl ?_
          refine jx_ld (pc_q := 180) (l_q := L244) (st_q := [.int (i32 (e)), .ref 85, .ref 66]) rfl (jl_iloadn gL244_1) ?_
          have b289 : (-2147483648 : Int) ≤ T0 18 (e).toNat ∧ T0 18 (e).toNat ≤ 2147483647 := hWT.2 18 _
          refine jr_ldv (pc_q := 181) (i := 18) (m := 7000) (z := e) (y := T0 18 (e).toNat) rfl (by decide) rfl (by decide) (by omega) (by omega) rfl (show A270 18 (e).toNat = T0 18 (e).toNat from (congrFun ((hF274.2 18 rfl).trans ((hF251.2 18 rfl).trans (p_0 18 rfl))) _)) ?_
          refine jx_vr (pc_q := 184) (as := [.int (i32 (T0 18 (e).toNat))]) (st := []) rfl rfl rfl rfl ⟨rfl, rfl, Nat.le_of_ble_eq_true rfl⟩ rfl rfl (hG (dd := d) (hd := by omega) (hW := hW273) (e := T0 18 (e).toNat) (lo := lo) (hi := m4) (st := st2_271) (e_st := show G269 70 = st2_271 from (e276)) (lg := lg2_272) (e_lg := show G269 79 = lg2_272 from (e277)) (lb := lb2_249) (e_lb := show G269 77 = lb2_249 from ((hF274.1 77 rfl).trans (e255))) (nw := nw) (e_nw := show G269 81 = nw from ((hF274.1 81 rfl).trans ((hF251.1 81 rfl).trans (e_nw))))  (h_e := ⟨(Int.le_trans (by decide : (-2147483648 : Int) ≤ -2147483648) b289.1), (Int.le_trans b289.2 (by decide : (2147483647 : Int) ≤ 2147483647))⟩)  (p_0 := (TA_fr hF285 (by decide) p_0)) (p_1 := (FA_fr (hF285.2 51 rfl) p_1)) (p_2 := (SA_fr (hF285.2 13 rfl) p_2)) (p_3 := p_3) (p_4 := by omega) (p_5 := by omega) (p_6 := by omega) (p_7 := by omega) (p_8 := by omega) (p_9 := by omega) (p_10 := by omega) (p_11 := by omega) (p_12 := by omega) (p_13 := g3) (p_14 := by omega)) (fun o V_q hq => ?_)
          obtain ⟨G290, A291, st2_292, lg2_293, lb2_294, rfl, rfl, hW295, hF296, hQ297, e298, e299, e300, p301, p302, p303, p304, p305, p306, p307, p308, p309, -⟩ := hq
          have hF311 := Fr_tr hF285 hF296 (Fr_sub (by decide)) (Fr_sub (by decide))
          have hC312 := Fx_tr hC286 hQ297 (by omega)
          have bst2_292 : (-2147483648 : Int) ≤ st2_292 ∧ st2_292 ≤ 2147483647 := e298 ▸ hW295.1 70
          have blg2_293 : (0 : Int) ≤ lg2_293 ∧ lg2_293 ≤ 1 := e299 ▸ hW295.1 79
          have blb2_294 : (-2147483648 : Int) ≤ lb2_294 ∧ lb2_294 ≤ 2147483647 := e300 ▸ hW295.1 77
          refine .inl ⟨rfl, ?_⟩
          have sf313 : Cd (lg2_293 = 0 ∧ lb2_294 < 19999) (gE T0 A291 F Sn nw (k) (T0 19 (e).toNat) (st) (st2_247) (lb) (lb2_249)) := Cd_mk (fun hC => gE_mv (Cg_fx (l0 := lb) (l1 := lb2_249) hQ297 (Cd_ap p308 (by omega)) (by omega)) (by omega) (Cd_ap sf287 (by omega)))
          have sf314 : Cd (lg2_293 = 0 ∧ lb2_294 < 19999) (ST A291 (st2_247) (st2_271) (13) (T0 25 (e).toNat)) := Cd_mk (fun hC => ST_mv (Cg_fx (l0 := 0) (l1 := 0) hQ297 (Cd_ap p308 (by omega)) (by omega)) (by omega) (Cd_ap p283 (by omega)))
          have hBo315 : Cd (lg2_293 = 0 ∧ lb2_294 < 19999) (Fx [50] (lb + 1) A A291) := Cd_mk (fun hC => Fx_tr (Cd_ap hBo288 (by omega)) (Cd_ap p308 (by omega)) (by omega))
          refine jx_ld (pc_q := 185) (l_q := L244) (st_q := [.ref 66]) rfl (jl_aloadn gL244_0) ?_
          refine jx_ar (pc_q := 187) (st_q := [.int (i32 (7)), .ref 66]) rfl rfl rfl rfl ?_
          refine jx_ld (pc_q := 188) (l_q := L244) (st_q := [.int (i32 (T0 25 (e).toNat)), .int (i32 (7)), .ref 66]) rfl (jl_iloadn gL244_3) ?_
          refine jx_vr (pc_q := 191) (as := [.int (i32 (7)), .int (i32 (T0 25 (e).toNat))]) (st := []) rfl rfl rfl rfl ⟨rfl, rfl, Nat.le_of_ble_eq_true rfl⟩ rfl rfl (c_emit (dd := d) (hd := by omega) (hW := hW295) (fn := 7) (v := T0 25 (e).toNat) (st := st2_292) (e_st := show G290 70 = st2_292 from (e298)) (lg := lg2_293) (e_lg := show G290 79 = lg2_293 from (e299))  (h_fn := ⟨(by decide), (by decide)⟩) (h_v := ⟨(Int.le_trans (by decide : (-2147483648 : Int) ≤ -2147483648) b243.1), (Int.le_trans b243.2 (by decide : (2147483647 : Int) ≤ 2147483647))⟩)  (p_0 := by omega) (p_1 := by omega)) (fun o V_q hq => ?_)
          obtain ⟨G316, A317, st2_318, lg2_319, rfl, rfl, hW320, hF321, hQ322, e323, e324, p325, p326, p327, p328, p329, p330, -⟩ := hq
          have hF332 := Fr_tr hF311 hF321 (Fr_sub (by decide)) (Fr_sub (by decide))
          have hC333 := Fx_tr hC312 hQ322 (by omega)
          have bst2_318 : (-2147483648 : Int) ≤ st2_318 ∧ st2_318 ≤ 2147483647 := e323 ▸ hW320.1 70
          have blg2_319 : (0 : Int) ≤ lg2_319 ∧ lg2_319 ≤ 1 := e324 ▸ hW320.1 79
          refine .inl ⟨rfl, ?_⟩
          have sf334 : Cd (lg2_319 = 0 ∧ lb2_294 < 19999) (gE T0 A317 F Sn nw (k) (T0 19 (e).toNat) (st) (st2_247) (lb) (lb2_249)) := Cd_mk (fun hC => gE_mv (Cg_fx (l0 := lb) (l1 := lb2_249) hQ322 (Fx_f (w := lb2_249 + 1) Fx_rf hF321 (by decide)) (by omega)) (by omega) (Cd_ap sf313 (by omega)))
          have sf335 : Cd (lg2_319 = 0 ∧ lb2_294 < 19999) (ST A317 (st2_247) (st2_271) (13) (T0 25 (e).toNat)) := Cd_mk (fun hC => ST_mv (Cg_fx (l0 := 0) (l1 := 0) hQ322 (Fx_f (w := 0 + 1) Fx_rf hF321 (by decide)) (by omega)) (by omega) (Cd_ap sf314 (by omega)))
          have sf336 : Cd (lg2_319 = 0 ∧ lb2_294 < 19999) (gE T0 A317 F Sn nw (k) (T0 18 (e).toNat) (st2_271) (st2_292) (lb2_249) (lb2_294)) := Cd_mk (fun hC => gE_mv (Cg_fx (l0 := lb2_249) (l1 := lb2_294) hQ322 (Fx_f (w := lb2_294 + 1) Fx_rf hF321 (by decide)) (by omega)) (by omega) (Cd_ap p309 (by omega)))
          have hBo337 : Cd (lg2_319 = 0 ∧ lb2_294 < 19999) (Fx [50] (lb + 1) A A317) := Cd_mk (fun hC => Fx_f (Cd_ap hBo315 (by omega)) hF321 (by decide))
          refine jx_ld (pc_q := 192) (l_q := L244) (st_q := [.ref 66]) rfl (jl_aloadn gL244_0) ?_
          refine jx_ld (pc_q := 193) (l_q := L244) (st_q := [.int (i32 (T0 17 (e).toNat)), .ref 66]) rfl (jl_iloadn gL244_2) ?_
          refine jx_vr (pc_q := 196) (as := [.int (i32 (T0 17 (e).toNat))]) (st := []) rfl rfl rfl rfl ⟨rfl, rfl, Nat.le_of_ble_eq_true rfl⟩ rfl rfl (c_genSign (dd := d) (hd := by omega) (hW := hW320) (oo := T0 17 (e).toNat) (st := st2_318) (e_st := show G316 70 = st2_318 from (e323)) (lg := lg2_319) (e_lg := show G316 79 = lg2_319 from (e324))  (h_oo := ⟨(Int.le_trans (by decide : (-2147483648 : Int) ≤ -2147483648) b1.1), (Int.le_trans b1.2 (by decide : (2147483647 : Int) ≤ 2147483647))⟩)  (p_0 := by omega) (p_1 := by omega)) (fun o V_q hq => ?_)
          obtain ⟨G338, A339, st2_340, lg2_341, rfl, rfl, hW342, hF343, hQ344, e345, e346, p347, p348, p349, p350, -⟩ := hq
          have hF352 := Fr_tr hF332 hF343 (Fr_sub (by decide)) (Fr_sub (by decide))
          have hC353 := Fx_tr hC333 hQ344 (by omega)
          have bst2_340 : (-2147483648 : Int) ≤ st2_340 ∧ st2_340 ≤ 2147483647 := e345 ▸ hW342.1 70
          have blg2_341 : (0 : Int) ≤ lg2_341 ∧ lg2_341 ≤ 1 := e346 ▸ hW342.1 79
          refine .inl ⟨rfl, ?_⟩
          have sf354 : Cd (lg2_341 = 0 ∧ lb2_294 < 19999) (gE T0 A339 F Sn nw (k) (T0 19 (e).toNat) (st) (st2_247) (lb) (lb2_249)) := Cd_mk (fun hC => gE_mv (Cg_fx (l0 := lb) (l1 := lb2_249) hQ344 (Fx_f (w := lb2_249 + 1) Fx_rf hF343 (by decide)) (by omega)) (by omega) (Cd_ap sf334 (by omega)))
          have sf355 : Cd (lg2_341 = 0 ∧ lb2_294 < 19999) (ST A339 (st2_247) (st2_271) (13) (T0 25 (e).toNat)) := Cd_mk (fun hC => ST_mv (Cg_fx (l0 := 0) (l1 := 0) hQ344 (Fx_f (w := 0 + 1) Fx_rf hF343 (by decide)) (by omega)) (by omega) (Cd_ap sf335 (by omega)))
          have sf356 : Cd (lg2_341 = 0 ∧ lb2_294 < 19999) (gE T0 A339 F Sn nw (k) (T0 18 (e).toNat) (st2_271) (st2_292) (lb2_249) (lb2_294)) := Cd_mk (fun hC => gE_mv (Cg_fx (l0 := lb2_249) (l1 := lb2_294) hQ344 (Fx_f (w := lb2_294 + 1) Fx_rf hF343 (by decide)) (by omega)) (by omega) (Cd_ap sf336 (by omega)))
          have sf357 : Cd (lg2_341 = 0 ∧ lb2_294 < 19999) (ST A339 (st2_292) (st2_318) (7) (T0 25 (e).toNat)) := Cd_mk (fun hC => ST_mv (Cg_fx (l0 := 0) (l1 := 0) hQ344 (Fx_f (w := 0 + 1) Fx_rf hF343 (by decide)) (by omega)) (by omega) (Cd_ap p330 (by omega)))
          have hBo358 : Cd (lg2_341 = 0 ∧ lb2_294 < 19999) (Fx [50] (lb + 1) A A339) := Cd_mk (fun hC => Fx_f (Cd_ap hBo337 (by omega)) hF343 (by decide))
          refine jx_rt (v := none) rfl rfl rfl rfl rfl rfl ?_
          exact ⟨_, _, st2_340, lg2_341, lb2_294, rfl, rfl, hW342, hF352, hC353, (e345), (e346), ((hF343.1 77 rfl).trans ((hF321.1 77 rfl).trans (e300))), by omega, by omega, by omega, by omega, by omega, (Cd_mk (fun hC => by have := Cd_ap p261 (by omega); have := Cd_ap p306 (by omega); omega)), by omega, (Cd_mk (fun hC => Cd_ap hBo358 (by omega))), (Cd_mk (fun hC => (gE_t p_15 hno (m := lb2_249) (by omega) (by omega) (Cd_ap sf354 (by omega)) (Cd_ap sf355 (by omega)) (Cd_ap sf356 (by omega)) (Cd_ap sf357 (by omega)) (Cd_ap p350 (by omega))))), trivial⟩
        · have _q := h242
          exact absurd h242 (by omega)
    · have _q := h157
      have _q : True := trivial
      refine jx_ld (pc_q := 20) (l_q := L2) (st_q := [.ref 66]) rfl (jl_aloadn gL2_0) ?_
      refine jx_vr (pc_q := 23) (as := []) (st := []) rfl rfl rfl rfl ⟨rfl, rfl, Nat.le_of_ble_eq_true rfl⟩ rfl rfl (c_label (dd := d) (hd := by omega) (hW := hW)  (lb := lb) (e_lb := show G 77 = lb from (e_lb))    (p_0 := by omega) (p_1 := by omega)) (fun o V_q hq => ?_)
      obtain ⟨G359, A360, r361, lb2_362, rfl, rfl, hW363, hF364, b365, e366, p367, p368, p369, p370, -⟩ := hq
      have hF372 := Fr_tr hF0 hF364 (Fr_sub (by decide)) (Fr_sub (by decide))
      have hC373 := Fx_f hC0 hF364 (by decide)
      have blb2_362 : (-2147483648 : Int) ≤ lb2_362 ∧ lb2_362 ≤ 2147483647 := e366 ▸ hW363.1 77
      refine .inr ⟨_, rfl, ?_⟩
      have hBo374 : Cd (lg = 0 ∧ lb2_362 < 19999) (Fx [50] (lb + 1) A A360) := Cd_mk (fun hC => Fx_f (Cd_ap hBo0 (by omega)) hF364 (by decide))
      have _q : True := trivial
      refine jx_ld (pc_q := 24) (l_q := jSto1 L2 3 (.int (i32 (r361)))) (st_q := []) rfl rfl ?_
      obtain ⟨L375, eL375⟩ : ∃ q, q = jSto1 L2 3 (.int (i32 (r361))) := ⟨_, rfl⟩
      rw [← eL375]
      have gL375_0 : jGet L375 0 = some (.ref 66) := eL375 ▸ jg_ne (by decide) gL2_0 rfl
      have gL375_1 : jGet L375 1 = some (.int (i32 (e))) := eL375 ▸ jg_ne (by decide) gL2_1 rfl
      have gL375_2 : jGet L375 2 = some (.int (i32 (T0 17 (e).toNat))) := eL375 ▸ jg_ne (by decide) gL2_2 rfl
      have gL375_3 : jGet L375 3 = some (.int (i32 (r361))) := eL375 ▸ jg_eq
      refine jx_ld (pc_q := 25) (l_q := L375) (st_q := [.ref 66]) rfl (jl_aloadn gL375_0) ?_
      refine jx_ld (pc_q := 26) (l_q := L375) (st_q := [.ref 66, .ref 66]) rfl (jl_aloadn gL375_0) ?_
      refine jr_get (pc_q := 29) (i := 35) (v := .ref 85) rfl rfl (by decide) rfl rfl ?_
      refine jx_ld (pc_q := 30) (l_q := L375) (st_q := [.int (i32 (e)), .ref 85, .ref 66]) rfl (jl_iloadn gL375_1) ?_
      have b376 : (-2147483648 : Int) ≤ T0 18 (e).toNat ∧ T0 18 (e).toNat ≤ 2147483647 := hWT.2 18 _
      refine jr_ldv (pc_q := 31) (i := 18) (m := 7000) (z := e) (y := T0 18 (e).toNat) rfl (by decide) rfl (by decide) (by omega) (by omega) rfl (show A360 18 (e).toNat = T0 18 (e).toNat from (congrFun ((hF364.2 18 rfl).trans (p_0 18 rfl)) _)) ?_
      refine jx_vr (pc_q := 34) (as := [.int (i32 (T0 18 (e).toNat))]) (st := []) rfl rfl rfl rfl ⟨rfl, rfl, Nat.le_of_ble_eq_true rfl⟩ rfl rfl (hG (dd := d) (hd := by omega) (hW := hW363) (e := T0 18 (e).toNat) (lo := lo) (hi := m4) (st := st) (e_st := show G359 70 = st from ((hF364.1 70 rfl).trans (e_st))) (lg := lg) (e_lg := show G359 79 = lg from ((hF364.1 79 rfl).trans (e_lg))) (lb := lb2_362) (e_lb := show G359 77 = lb2_362 from (e366)) (nw := nw) (e_nw := show G359 81 = nw from ((hF364.1 81 rfl).trans (e_nw)))  (h_e := ⟨(Int.le_trans (by decide : (-2147483648 : Int) ≤ -2147483648) b376.1), (Int.le_trans b376.2 (by decide : (2147483647 : Int) ≤ 2147483647))⟩)  (p_0 := (TA_fr hF372 (by decide) p_0)) (p_1 := (FA_fr (hF372.2 51 rfl) p_1)) (p_2 := (SA_fr (hF372.2 13 rfl) p_2)) (p_3 := p_3) (p_4 := by omega) (p_5 := by omega) (p_6 := by omega) (p_7 := by omega) (p_8 := by omega) (p_9 := by omega) (p_10 := by omega) (p_11 := by omega) (p_12 := by omega) (p_13 := g3) (p_14 := by omega)) (fun o V_q hq => ?_)
      obtain ⟨G377, A378, st2_379, lg2_380, lb2_381, rfl, rfl, hW382, hF383, hQ384, e385, e386, e387, p388, p389, p390, p391, p392, p393, p394, p395, p396, -⟩ := hq
      have hF398 := Fr_tr hF372 hF383 (Fr_sub (by decide)) (Fr_sub (by decide))
      have hC399 := Fx_tr hC373 hQ384 (by omega)
      have bst2_379 : (-2147483648 : Int) ≤ st2_379 ∧ st2_379 ≤ 2147483647 := e385 ▸ hW382.1 70
      have blg2_380 : (0 : Int) ≤ lg2_380 ∧ lg2_380 ≤ 1 := e386 ▸ hW382.1 79
      have blb2_381 : (-2147483648 : Int) ≤ lb2_381 ∧ lb2_381 ≤ 2147483647 := e387 ▸ hW382.1 77
      refine .inl ⟨rfl, ?_⟩
      have hBo400 : Cd (lg2_380 = 0 ∧ lb2_381 < 19999) (Fx [50] (lb + 1) A A378) := Cd_mk (fun hC => Fx_tr (Cd_ap hBo374 (by omega)) (Cd_ap p395 (by omega)) (by omega))
      have _q : True := trivial
      refine jx_ld (pc_q := 35) (l_q := L375) (st_q := [.int (i32 (T0 17 (e).toNat))]) rfl (jl_iloadn gL375_2) ?_
      refine jx_ar (pc_q := 37) (st_q := [.int (i32 (18)), .int (i32 (T0 17 (e).toNat))]) rfl rfl rfl rfl ?_
      refine jx_icmp_ne (pc_q := 40) (tg := 47) rfl rfl rfl (Int.le_trans (by decide : (-2147483648 : Int) ≤ -2147483648) b1.1) (Int.le_trans b1.2 (by decide : (2147483647 : Int) ≤ 2147483647)) (by decide) (by decide) (fun h401 => ?_) (fun h401 => ?_)
      · have _q := h401
        exfalso
        omega
      · have _q := h401
        refine jx_ld (pc_q := 41) (l_q := L375) (st_q := [.ref 66]) rfl (jl_aloadn gL375_0) ?_
        refine jx_ar (pc_q := 43) (st_q := [.int (i32 (12)), .ref 66]) rfl rfl rfl rfl ?_
        refine jx_ar (pc_q := 44) (st_q := [.int (i32 (0)), .int (i32 (12)), .ref 66]) rfl rfl rfl rfl ?_
        refine jx_vr (pc_q := 47) (as := [.int (i32 (12)), .int (i32 (0))]) (st := []) rfl rfl rfl rfl ⟨rfl, rfl, Nat.le_of_ble_eq_true rfl⟩ rfl rfl (c_emit (dd := d) (hd := by omega) (hW := hW382) (fn := 12) (v := 0) (st := st2_379) (e_st := show G377 70 = st2_379 from (e385)) (lg := lg2_380) (e_lg := show G377 79 = lg2_380 from (e386))  (h_fn := ⟨(by decide), (by decide)⟩) (h_v := ⟨(by decide), (by decide)⟩)  (p_0 := by omega) (p_1 := by omega)) (fun o V_q hq => ?_)
        obtain ⟨G402, A403, st2_404, lg2_405, rfl, rfl, hW406, hF407, hQ408, e409, e410, p411, p412, p413, p414, p415, p416, -⟩ := hq
        have hF418 := Fr_tr hF398 hF407 (Fr_sub (by decide)) (Fr_sub (by decide))
        have hC419 := Fx_tr hC399 hQ408 (by omega)
        have bst2_404 : (-2147483648 : Int) ≤ st2_404 ∧ st2_404 ≤ 2147483647 := e409 ▸ hW406.1 70
        have blg2_405 : (0 : Int) ≤ lg2_405 ∧ lg2_405 ≤ 1 := e410 ▸ hW406.1 79
        refine .inl ⟨rfl, ?_⟩
        have sf420 : Cd (lg2_405 = 0 ∧ lb2_381 < 19999) (gE T0 A403 F Sn nw (k) (T0 18 (e).toNat) (st) (st2_379) (lb2_362) (lb2_381)) := Cd_mk (fun hC => gE_mv (Cg_fx (l0 := lb2_362) (l1 := lb2_381) hQ408 (Fx_f (w := lb2_381 + 1) Fx_rf hF407 (by decide)) (by omega)) (by omega) (Cd_ap p396 (by omega)))
        have hBo421 : Cd (lg2_405 = 0 ∧ lb2_381 < 19999) (Fx [50] (lb + 1) A A403) := Cd_mk (fun hC => Fx_f (Cd_ap hBo400 (by omega)) hF407 (by decide))
        refine jx_ld (pc_q := 48) (l_q := L375) (st_q := [.ref 66]) rfl (jl_aloadn gL375_0) ?_
        refine jx_ar (pc_q := 50) (st_q := [.int (i32 (10)), .ref 66]) rfl rfl rfl rfl ?_
        refine jx_ld (pc_q := 51) (l_q := L375) (st_q := [.int (i32 (r361)), .int (i32 (10)), .ref 66]) rfl (jl_iloadn gL375_3) ?_
        refine jx_ar (pc_q := 52) (st_q := [.int (i32 (0)), .int (i32 (r361)), .int (i32 (10)), .ref 66]) rfl rfl rfl rfl ?_
        refine jx_vr (pc_q := 55) (as := [.int (i32 (10)), .int (i32 (r361)), .int (i32 (0))]) (st := []) rfl rfl rfl rfl ⟨rfl, rfl, Nat.le_of_ble_eq_true rfl⟩ rfl rfl (c_way (dd := d) (hd := by omega) (hW := hW406) (fn := 10) (to := r361) (fr := 0) (st := st2_404) (e_st := show G402 70 = st2_404 from (e409)) (lg := lg2_405) (e_lg := show G402 79 = lg2_405 from (e410))  (h_fn := ⟨(by decide), (by decide)⟩) (h_to := ⟨(Int.le_trans (by decide : (-2147483648 : Int) ≤ -2147483648) b365.1), (Int.le_trans b365.2 (by decide : (2147483647 : Int) ≤ 2147483647))⟩) (h_fr := ⟨(by decide), (by decide)⟩)  (p_0 := by omega) (p_1 := by omega)) (fun o V_q hq => ?_)
        obtain ⟨G422, A423, st2_424, lg2_425, rfl, rfl, hW426, hF427, hQ428, e429, e430, p431, p432, p433, p434, p435, p436, -⟩ := hq
        have hF438 := Fr_tr hF418 hF427 (Fr_sub (by decide)) (Fr_sub (by decide))
        have hC439 := Fx_tr hC419 hQ428 (by omega)
        have bst2_424 : (-2147483648 : Int) ≤ st2_424 ∧ st2_424 ≤ 2147483647 := e429 ▸ hW426.1 70
        have blg2_425 : (0 : Int) ≤ lg2_425 ∧ lg2_425 ≤ 1 := e430 ▸ hW426.1 79
        refine .inl ⟨rfl, ?_⟩
        have sf440 : Cd (lg2_425 = 0 ∧ lb2_381 < 19999) (gE T0 A423 F Sn nw (k) (T0 18 (e).toNat) (st) (st2_379) (lb2_362) (lb2_381)) := Cd_mk (fun hC => gE_mv (Cg_fx (l0 := lb2_362) (l1 := lb2_381) hQ428 (Fx_f (w := lb2_381 + 1) Fx_rf hF427 (by decide)) (by omega)) (by omega) (Cd_ap sf420 (by omega)))
        have sf441 : Cd (lg2_425 = 0 ∧ lb2_381 < 19999) (ST A423 (st2_379) (st2_404) (12) (0)) := Cd_mk (fun hC => ST_mv (Cg_fx (l0 := 0) (l1 := 0) hQ428 (Fx_f (w := 0 + 1) Fx_rf hF427 (by decide)) (by omega)) (by omega) (Cd_ap p416 (by omega)))
        have hBo442 : Cd (lg2_425 = 0 ∧ lb2_381 < 19999) (Fx [50] (lb + 1) A A423) := Cd_mk (fun hC => Fx_f (Cd_ap hBo421 (by omega)) hF427 (by decide))
        refine jx_ld (pc_q := 56) (l_q := L375) (st_q := [.ref 66]) rfl (jl_aloadn gL375_0) ?_
        refine jx_ld (pc_q := 57) (l_q := L375) (st_q := [.ref 66, .ref 66]) rfl (jl_aloadn gL375_0) ?_
        refine jr_get (pc_q := 60) (i := 36) (v := .ref 86) rfl rfl (by decide) rfl rfl ?_
        refine jx_ld (pc_q := 61) (l_q := L375) (st_q := [.int (i32 (e)), .ref 86, .ref 66]) rfl (jl_iloadn gL375_1) ?_
        have b443 : (-2147483648 : Int) ≤ T0 19 (e).toNat ∧ T0 19 (e).toNat ≤ 2147483647 := hWT.2 19 _
        refine jr_ldv (pc_q := 62) (i := 19) (m := 7000) (z := e) (y := T0 19 (e).toNat) rfl (by decide) rfl (by decide) (by omega) (by omega) rfl (show A423 19 (e).toNat = T0 19 (e).toNat from (congrFun ((hF427.2 19 rfl).trans ((hF407.2 19 rfl).trans ((hF383.2 19 rfl).trans ((hF364.2 19 rfl).trans (p_0 19 rfl))))) _)) ?_
        refine jx_vr (pc_q := 65) (as := [.int (i32 (T0 19 (e).toNat))]) (st := []) rfl rfl rfl rfl ⟨rfl, rfl, Nat.le_of_ble_eq_true rfl⟩ rfl rfl (hG (dd := d) (hd := by omega) (hW := hW426) (e := T0 19 (e).toNat) (lo := m4) (hi := e) (st := st2_424) (e_st := show G422 70 = st2_424 from (e429)) (lg := lg2_425) (e_lg := show G422 79 = lg2_425 from (e430)) (lb := lb2_381) (e_lb := show G422 77 = lb2_381 from ((hF427.1 77 rfl).trans ((hF407.1 77 rfl).trans (e387)))) (nw := nw) (e_nw := show G422 81 = nw from ((hF427.1 81 rfl).trans ((hF407.1 81 rfl).trans ((hF383.1 81 rfl).trans ((hF364.1 81 rfl).trans (e_nw))))))  (h_e := ⟨(Int.le_trans (by decide : (-2147483648 : Int) ≤ -2147483648) b443.1), (Int.le_trans b443.2 (by decide : (2147483647 : Int) ≤ 2147483647))⟩)  (p_0 := (TA_fr hF438 (by decide) p_0)) (p_1 := (FA_fr (hF438.2 51 rfl) p_1)) (p_2 := (SA_fr (hF438.2 13 rfl) p_2)) (p_3 := p_3) (p_4 := by omega) (p_5 := by omega) (p_6 := by omega) (p_7 := by omega) (p_8 := by omega) (p_9 := by omega) (p_10 := by omega) (p_11 := by omega) (p_12 := by omega) (p_13 := g4) (p_14 := by omega)) (fun o V_q hq => ?_)
        obtain ⟨G444, A445, st2_446, lg2_447, lb2_448, rfl, rfl, hW449, hF450, hQ451, e452, e453, e454, p455, p456, p457, p458, p459, p460, p461, p462, p463, -⟩ := hq
        have hF465 := Fr_tr hF438 hF450 (Fr_sub (by decide)) (Fr_sub (by decide))
        have hC466 := Fx_tr hC439 hQ451 (by omega)
        have bst2_446 : (-2147483648 : Int) ≤ st2_446 ∧ st2_446 ≤ 2147483647 := e452 ▸ hW449.1 70
        have blg2_447 : (0 : Int) ≤ lg2_447 ∧ lg2_447 ≤ 1 := e453 ▸ hW449.1 79
        have blb2_448 : (-2147483648 : Int) ≤ lb2_448 ∧ lb2_448 ≤ 2147483647 := e454 ▸ hW449.1 77
        refine .inl ⟨rfl, ?_⟩
        have sf467 : Cd (lg2_447 = 0 ∧ lb2_448 < 19999) (gE T0 A445 F Sn nw (k) (T0 18 (e).toNat) (st) (st2_379) (lb2_362) (lb2_381)) := Cd_mk (fun hC => gE_mv (Cg_fx (l0 := lb2_362) (l1 := lb2_381) hQ451 (Cd_ap p462 (by omega)) (by omega)) (by omega) (Cd_ap sf440 (by omega)))
        have sf468 : Cd (lg2_447 = 0 ∧ lb2_448 < 19999) (ST A445 (st2_379) (st2_404) (12) (0)) := Cd_mk (fun hC => ST_mv (Cg_fx (l0 := 0) (l1 := 0) hQ451 (Cd_ap p462 (by omega)) (by omega)) (by omega) (Cd_ap sf441 (by omega)))
        have sf469 : Cd (lg2_447 = 0 ∧ lb2_448 < 19999) (WY A445 (st2_404) (st2_424) (10) (r361) (0)) := Cd_mk (fun hC => WY_mv (Cg_fx (l0 := 0) (l1 := 0) hQ451 (Cd_ap p462 (by omega)) (by omega)) (by omega) (Cd_ap p436 (by omega)))
        have hBo470 : Cd (lg2_447 = 0 ∧ lb2_448 < 19999) (Fx [50] (lb + 1) A A445) := Cd_mk (fun hC => Fx_tr (Cd_ap hBo442 (by omega)) (Cd_ap p462 (by omega)) (by omega))
        refine jx_ld (pc_q := 66) (l_q := L375) (st_q := [.ref 66]) rfl (jl_aloadn gL375_0) ?_
        refine jx_ar (pc_q := 68) (st_q := [.int (i32 (12)), .ref 66]) rfl rfl rfl rfl ?_
        refine jx_ar (pc_q := 69) (st_q := [.int (i32 (0)), .int (i32 (12)), .ref 66]) rfl rfl rfl rfl ?_
        refine jx_vr (pc_q := 72) (as := [.int (i32 (12)), .int (i32 (0))]) (st := []) rfl rfl rfl rfl ⟨rfl, rfl, Nat.le_of_ble_eq_true rfl⟩ rfl rfl (c_emit (dd := d) (hd := by omega) (hW := hW449) (fn := 12) (v := 0) (st := st2_446) (e_st := show G444 70 = st2_446 from (e452)) (lg := lg2_447) (e_lg := show G444 79 = lg2_447 from (e453))  (h_fn := ⟨(by decide), (by decide)⟩) (h_v := ⟨(by decide), (by decide)⟩)  (p_0 := by omega) (p_1 := by omega)) (fun o V_q hq => ?_)
        obtain ⟨G471, A472, st2_473, lg2_474, rfl, rfl, hW475, hF476, hQ477, e478, e479, p480, p481, p482, p483, p484, p485, -⟩ := hq
        have hF487 := Fr_tr hF465 hF476 (Fr_sub (by decide)) (Fr_sub (by decide))
        have hC488 := Fx_tr hC466 hQ477 (by omega)
        have bst2_473 : (-2147483648 : Int) ≤ st2_473 ∧ st2_473 ≤ 2147483647 := e478 ▸ hW475.1 70
        have blg2_474 : (0 : Int) ≤ lg2_474 ∧ lg2_474 ≤ 1 := e479 ▸ hW475.1 79
        refine .inl ⟨rfl, ?_⟩
        have sf489 : Cd (lg2_474 = 0 ∧ lb2_448 < 19999) (gE T0 A472 F Sn nw (k) (T0 18 (e).toNat) (st) (st2_379) (lb2_362) (lb2_381)) := Cd_mk (fun hC => gE_mv (Cg_fx (l0 := lb2_362) (l1 := lb2_381) hQ477 (Fx_f (w := lb2_381 + 1) Fx_rf hF476 (by decide)) (by omega)) (by omega) (Cd_ap sf467 (by omega)))
        have sf490 : Cd (lg2_474 = 0 ∧ lb2_448 < 19999) (ST A472 (st2_379) (st2_404) (12) (0)) := Cd_mk (fun hC => ST_mv (Cg_fx (l0 := 0) (l1 := 0) hQ477 (Fx_f (w := 0 + 1) Fx_rf hF476 (by decide)) (by omega)) (by omega) (Cd_ap sf468 (by omega)))
        have sf491 : Cd (lg2_474 = 0 ∧ lb2_448 < 19999) (WY A472 (st2_404) (st2_424) (10) (r361) (0)) := Cd_mk (fun hC => WY_mv (Cg_fx (l0 := 0) (l1 := 0) hQ477 (Fx_f (w := 0 + 1) Fx_rf hF476 (by decide)) (by omega)) (by omega) (Cd_ap sf469 (by omega)))
        have sf492 : Cd (lg2_474 = 0 ∧ lb2_448 < 19999) (gE T0 A472 F Sn nw (k) (T0 19 (e).toNat) (st2_424) (st2_446) (lb2_381) (lb2_448)) := Cd_mk (fun hC => gE_mv (Cg_fx (l0 := lb2_381) (l1 := lb2_448) hQ477 (Fx_f (w := lb2_448 + 1) Fx_rf hF476 (by decide)) (by omega)) (by omega) (Cd_ap p463 (by omega)))
        have hBo493 : Cd (lg2_474 = 0 ∧ lb2_448 < 19999) (Fx [50] (lb + 1) A A472) := Cd_mk (fun hC => Fx_f (Cd_ap hBo470 (by omega)) hF476 (by decide))
        refine jx_ld (pc_q := 73) (l_q := L375) (st_q := [.int (i32 (T0 17 (e).toNat))]) rfl (jl_iloadn gL375_2) ?_
        refine jx_ar (pc_q := 75) (st_q := [.int (i32 (17)), .int (i32 (T0 17 (e).toNat))]) rfl rfl rfl rfl ?_
        refine jx_icmp_ne (pc_q := 78) (tg := 93) rfl rfl rfl (Int.le_trans (by decide : (-2147483648 : Int) ≤ -2147483648) b1.1) (Int.le_trans b1.2 (by decide : (2147483647 : Int) ≤ 2147483647)) (by decide) (by decide) (fun h494 => ?_) (fun h494 => ?_)
        · have _q := h494
          refine jx_ld (pc_q := 94) (l_q := L375) (st_q := [.ref 66]) rfl (jl_aloadn gL375_0) ?_
          refine jx_ld (pc_q := 95) (l_q := L375) (st_q := [.int (i32 (r361)), .ref 66]) rfl (jl_iloadn gL375_3) ?_
          refine jx_vr (pc_q := 98) (as := [.int (i32 (r361))]) (st := []) rfl rfl rfl rfl ⟨rfl, rfl, Nat.le_of_ble_eq_true rfl⟩ rfl rfl (c_set (dd := d) (hd := by omega) (hW := hW475) (l := r361) (st := st2_473) (e_st := show G471 70 = st2_473 from (e478))  (h_l := ⟨(Int.le_trans (by decide : (-2147483648 : Int) ≤ -2147483648) b365.1), (Int.le_trans b365.2 (by decide : (2147483647 : Int) ≤ 2147483647))⟩)  (p_0 := by omega) (p_1 := by omega)) (fun o V_q hq => ?_)
          obtain ⟨G495, A496, ls2_497, rfl, rfl, hW498, hF499, e500, p501, q502⟩ := hq
          have hF503 := Fr_tr hF487 hF499 (Fr_sub (by decide)) (Fr_sub (by decide))
          have hC504 := Fx_f hC488 hF499 (by decide)
          have bls2_497 : (-2147483648 : Int) ≤ ls2_497 ∧ ls2_497 ≤ 2147483647 := e500 ▸ hW498.2 50 _
          refine .inl ⟨rfl, ?_⟩
          have a505 := q502
          have sf506 : Cd (lg2_474 = 0 ∧ lb2_448 < 19999) (gE T0 A496 F Sn nw (k) (T0 18 (e).toNat) (st) (st2_379) (lb2_362) (lb2_381)) := Cd_mk (fun hC => gE_mv (Cg_set (K := st2_379) a505 (by omega) (by have hr := Cd_ap p370 (by omega); omega)) (Int.le_refl _) (Cd_ap sf489 (by omega)))
          have sf507 : Cd (lg2_474 = 0 ∧ lb2_448 < 19999) (ST A496 (st2_379) (st2_404) (12) (0)) := Cd_mk (fun hC => ST_mv (Cg_set (K := st2_404) (l0 := r361) (l1 := r361) a505 (by omega) (by omega)) (Int.le_refl _) (Cd_ap sf490 (by omega)))
          have sf508 : Cd (lg2_474 = 0 ∧ lb2_448 < 19999) (WY A496 (st2_404) (st2_424) (10) (r361) (0)) := Cd_mk (fun hC => WY_mv (Cg_set (K := st2_424) (l0 := r361) (l1 := r361) a505 (by omega) (by omega)) (Int.le_refl _) (Cd_ap sf491 (by omega)))
          have sf509 : Cd (lg2_474 = 0 ∧ lb2_448 < 19999) (gE T0 A496 F Sn nw (k) (T0 19 (e).toNat) (st2_424) (st2_446) (lb2_381) (lb2_448)) := Cd_mk (fun hC => gE_mv (Cg_set (K := st2_446) a505 (by omega) (by have hr := Cd_ap p370 (by omega); omega)) (Int.le_refl _) (Cd_ap sf492 (by omega)))
          have sf510 : Cd (lg2_474 = 0 ∧ lb2_448 < 19999) (ST A496 (st2_446) (st2_473) (12) (0)) := Cd_mk (fun hC => ST_mv (Cg_set (K := st2_473) (l0 := r361) (l1 := r361) a505 (by omega) (by omega)) (Int.le_refl _) (Cd_ap p485 (by omega)))
          have hBo511 : Cd (lg2_474 = 0 ∧ lb2_448 < 19999) (Fx [50] (lb + 1) A A496) := Cd_mk (fun hC => Fx_u a505 (Cd_ap hBo493 (by omega)) (by omega) (by have hr := Cd_ap p370 (by omega); omega))
          refine jx_ld (pc_q := 99) (l_q := L375) (st_q := [.ref 66]) rfl (jl_aloadn gL375_0) ?_
          refine jx_ar (pc_q := 101) (st_q := [.int (i32 (12)), .ref 66]) rfl rfl rfl rfl ?_
          refine jx_ar (pc_q := 102) (st_q := [.int (i32 (0)), .int (i32 (12)), .ref 66]) rfl rfl rfl rfl ?_
          refine jx_vr (pc_q := 105) (as := [.int (i32 (12)), .int (i32 (0))]) (st := []) rfl rfl rfl rfl ⟨rfl, rfl, Nat.le_of_ble_eq_true rfl⟩ rfl rfl (c_emit (dd := d) (hd := by omega) (hW := hW498) (fn := 12) (v := 0) (st := st2_473) (e_st := show G495 70 = st2_473 from ((hF499.1 70 rfl).trans (e478))) (lg := lg2_474) (e_lg := show G495 79 = lg2_474 from ((hF499.1 79 rfl).trans (e479)))  (h_fn := ⟨(by decide), (by decide)⟩) (h_v := ⟨(by decide), (by decide)⟩)  (p_0 := by omega) (p_1 := by omega)) (fun o V_q hq => ?_)
          obtain ⟨G512, A513, st2_514, lg2_515, rfl, rfl, hW516, hF517, hQ518, e519, e520, p521, p522, p523, p524, p525, p526, -⟩ := hq
          have hF528 := Fr_tr hF503 hF517 (Fr_sub (by decide)) (Fr_sub (by decide))
          have hC529 := Fx_tr hC504 hQ518 (by omega)
          have bst2_514 : (-2147483648 : Int) ≤ st2_514 ∧ st2_514 ≤ 2147483647 := e519 ▸ hW516.1 70
          have blg2_515 : (0 : Int) ≤ lg2_515 ∧ lg2_515 ≤ 1 := e520 ▸ hW516.1 79
          refine .inl ⟨rfl, ?_⟩
          have sf530 : Cd (lg2_515 = 0 ∧ lb2_448 < 19999) (gE T0 A513 F Sn nw (k) (T0 18 (e).toNat) (st) (st2_379) (lb2_362) (lb2_381)) := Cd_mk (fun hC => gE_mv (Cg_fx (l0 := lb2_362) (l1 := lb2_381) hQ518 (Fx_f (w := lb2_381 + 1) Fx_rf hF517 (by decide)) (by omega)) (by omega) (Cd_ap sf506 (by omega)))
          have sf531 : Cd (lg2_515 = 0 ∧ lb2_448 < 19999) (ST A513 (st2_379) (st2_404) (12) (0)) := Cd_mk (fun hC => ST_mv (Cg_fx (l0 := 0) (l1 := 0) hQ518 (Fx_f (w := 0 + 1) Fx_rf hF517 (by decide)) (by omega)) (by omega) (Cd_ap sf507 (by omega)))
          have sf532 : Cd (lg2_515 = 0 ∧ lb2_448 < 19999) (WY A513 (st2_404) (st2_424) (10) (r361) (0)) := Cd_mk (fun hC => WY_mv (Cg_fx (l0 := 0) (l1 := 0) hQ518 (Fx_f (w := 0 + 1) Fx_rf hF517 (by decide)) (by omega)) (by omega) (Cd_ap sf508 (by omega)))
          have sf533 : Cd (lg2_515 = 0 ∧ lb2_448 < 19999) (gE T0 A513 F Sn nw (k) (T0 19 (e).toNat) (st2_424) (st2_446) (lb2_381) (lb2_448)) := Cd_mk (fun hC => gE_mv (Cg_fx (l0 := lb2_381) (l1 := lb2_448) hQ518 (Fx_f (w := lb2_448 + 1) Fx_rf hF517 (by decide)) (by omega)) (by omega) (Cd_ap sf509 (by omega)))
          have sf534 : Cd (lg2_515 = 0 ∧ lb2_448 < 19999) (ST A513 (st2_446) (st2_473) (12) (0)) := Cd_mk (fun hC => ST_mv (Cg_fx (l0 := 0) (l1 := 0) hQ518 (Fx_f (w := 0 + 1) Fx_rf hF517 (by decide)) (by omega)) (by omega) (Cd_ap sf510 (by omega)))
          have hBo535 : Cd (lg2_515 = 0 ∧ lb2_448 < 19999) (Fx [50] (lb + 1) A A513) := Cd_mk (fun hC => Fx_f (Cd_ap hBo511 (by omega)) hF517 (by decide))
          refine jx_rt (v := none) rfl rfl rfl rfl rfl rfl ?_
          exact ⟨_, _, st2_514, lg2_515, lb2_448, rfl, rfl, hW516, hF528, hC529, (e519), (e520), ((hF517.1 77 rfl).trans ((hF499.1 77 rfl).trans ((hF476.1 77 rfl).trans (e454)))), by omega, by omega, by omega, by omega, by omega, (Cd_mk (fun hC => by have := Cd_ap p393 (by omega); have := Cd_ap p460 (by omega); omega)), by omega, (Cd_mk (fun hC => Cd_ap hBo535 (by omega))), (Cd_mk (fun hC => (gE_18 p_15 (by omega) (m1 := lb2_362) (m2 := lb2_381) (by omega) (by omega) (by omega) (Cd_ap sf530 (by omega)) (Cd_ap sf531 (by omega)) (JP_mk (Cd_ap sf532 (by omega)) (by omega) (by have hr := Cd_ap p370 (by omega); omega) (by have hr := Cd_ap p370 (by omega); omega) ((show A513 50 (r361).toNat = ls2_497 from (congrFun (hF517.2 50 rfl) _).trans (e500)).trans (by omega))) (Cd_ap sf533 (by omega)) (Cd_ap sf534 (by omega)) (Cd_ap p526 (by omega))))), trivial⟩
        · have _q := h494
          exfalso
          omega
