set_option maxRecDepth 20000 in
set_option maxHeartbeats 4000000 in
theorem c_measure_s_at_481 {X : jX} {k : Nat} (hM : MM X k) {d : Nat} {Vs : Nat → Prop} {sb pb : Int} {c0 c1 : jC} {G : Nat → Int} {A : Nat → Nat → Int} {T : jH} {n fr : Int} {lo hi s0 s1 : Int} {mo lv : Int} (hd : 2 * (k + 1) + 30 ≤ d + 1) (hW : Wk G A) (e_mo : G 59 = mo) (e_lv : G 60 = lv) (h_n : (-2147483648 : Int) ≤ n ∧ n ≤ 2147483647) (h_fr : (-2147483648 : Int) ≤ fr ∧ fr ≤ 2147483647) (p_0 : 0 ≤ lo) (p_1 : hi ≤ 6999) (p_2 : 0 ≤ s0) (p_3 : s1 ≤ sb) (p_4 : sb ≤ 202) (p_5 : 0 ≤ lv) (p_6 : lv + ((k + 1 : Nat) : Int) ≤ 60) (p_7 : mo ≤ 1000000) (p_8 : PS A (pb)) (p_9 : 1 ≤ fr) (p_10 : fr ≤ 70 + 64 * s0 + 20 * lo) (p_11 : fr ≤ mo) (p_12 : wP A sb pb (k + 1) (Vs) (n) (lo) (hi) (s0) (s1)) (p_13 : pb ≤ 24) : ∀ (m : Nat) (L : jL) (Gx : Nat → Int) (Ax : Nat → Nat → Int) (free deep c mo1 gm gt : Int), (hi - gm).toNat = m → jGet L 0 = some (.ref 66) → jGet L 1 = some (.int (i32 (n))) → jGet L 2 = some (.int (i32 (fr))) → jGet L 3 = some (.int (i32 free)) → jGet L 4 = some (.int (i32 deep)) → jGet L 5 = some (.int (i32 c)) → Wk Gx Ax → Fr [59, 60] [9, 10, 25, 26, 27] G A Gx Ax → Fo [25, 26, 27] (lo) (hi) A Ax → Fo [9, 10] (s0) (s1) A Ax → Gx 59 = mo1 → Gx 60 = lv → ((-2147483648 : Int) ≤ free ∧ free ≤ 2147483647) → ((-2147483648 : Int) ≤ deep ∧ deep ≤ 2147483647) → ((-2147483648 : Int) ≤ c ∧ c ≤ 2147483647) → (mo ≤ mo1) → (mo1 ≤ 1000000) → (free = fr + zS A s0 (A 24 (n).toNat).toNat) → (1 ≤ free) → (free ≤ mo1) → (free ≤ 70 + 64 * (s0 + A 24 (n).toNat) + 20 * lo) → (lD Ax (s0) ((A 24 (n).toNat).toNat) (fr) (lv)) → (A 15 (n).toNat = 30) → (0 ≤ deep) → (deep ≤ 1000000) → (n + 1 ≤ gm) → (gm ≤ hi) → ((s0 + A 24 (n).toNat) ≤ gt) → (gt ≤ s1) → (LI A Ax sb pb k ((Vd Vs s0 (s0 + A 24 (n).toNat))) (n) (c) (n + 1) (hi) ((s0 + A 24 (n).toNat)) (s1) (free) (lv) (mo1) (deep) (gm) (gt)) → wj X d jm320 (481, L, [], rV c0 c1 Gx Ax T) (fun o V_q => ∃ (G_q : Nat → Int) (A_q : Nat → Nat → Int) (r : Int) (mo2 : Int) (lv2 : Int), V_q = rV c0 c1 G_q A_q T ∧ o = .inl (some (.int (i32 r))) ∧ Wk G_q A_q ∧ Fr [59, 60] [9, 10, 25, 26, 27] G A G_q A_q ∧ Fo [25, 26, 27] (lo) (hi) A A_q ∧ Fo [9, 10] (s0) (s1) A A_q ∧ ((-2147483648 : Int) ≤ r ∧ r ≤ 2147483647) ∧ G_q 59 = mo2 ∧ G_q 60 = lv2 ∧ (mo ≤ mo2) ∧ (mo2 ≤ 1000000) ∧ (lv2 = lv) ∧ (0 ≤ r) ∧ (r ≤ 1000000) ∧ (lP A_q (k + 1) (n) (fr) (lv) (mo2) (r)) ∧ True) := by
  have hF0 : Fr [59, 60] [9, 10, 25, 26, 27] G A G A := Fr_rf
  have hO0 : Fo [25, 26, 27] (lo) (hi) A A := Fo_rf
  have hN0 : Fo [9, 10] (s0) (s1) A A := Fo_rf
  have b_mo : (-2147483648 : Int) ≤ mo ∧ mo ≤ 2147483647 := e_mo ▸ hW.1 59
  have b_lv : (-2147483648 : Int) ≤ lv ∧ lv ≤ 2147483647 := e_lv ▸ hW.1 60
  have hp12 := p_12
  unfold wP at hp12
  obtain ⟨w1, w2, w3, w4, w5, w6, w7, w8⟩ := hp12
  intro m
  induction m using Nat.strongRecOn with
  | ind m ih481 =>
    intro L Gx Ax free deep c mo1 gm gt hm gL_0 gL_1 gL_2 gL_3 gL_4 gL_5 hWx hFx hOx hNx ex_mo1 fx_60 rx_free rx_deep rx_c iv_0 iv_1 iv_2 iv_3 iv_4 iv_5 iv_6 iv_7 iv_8 iv_9 iv_10 iv_11 iv_12 iv_13 iv_14
    have b_mo1 : (-2147483648 : Int) ≤ mo1 ∧ mo1 ≤ 2147483647 := ex_mo1 ▸ hWx.1 59
    have _q : True := trivial
    refine jx_ld (pc_q := 483) (l_q := L) (st_q := [.int (i32 (c))]) rfl (jl_iload gL_5) ?_
    refine jx_if_le (pc_q := 486) (tg := 529) rfl rfl rfl (Int.le_trans (by decide : (-2147483648 : Int) ≤ -2147483648) rx_c.1) (Int.le_trans rx_c.2 (by decide : (2147483647 : Int) ≤ 2147483647)) (fun h1 => ?_) (fun h1 => ?_)
    · have _q := h1
      refine jx_ld (pc_q := 531) (l_q := L) (st_q := [.int (i32 (deep))]) rfl (jl_iload gL_4) ?_
      refine jx_rt (v := some (.int (i32 (deep)))) rfl rfl rfl rfl rfl rfl ?_
      exact ⟨_, _, _, mo1, lv, rfl, rfl, hWx, hFx, hOx, hNx, by omega, (ex_mo1), (fx_60), by omega, by omega, by omega, by omega, by omega, (lP_mk (m := (A 24 (n).toNat).toNat) hFx (by decide) ((show Ax 23 (n).toNat = A 23 (n).toNat from (congrFun (hFx.2 23 rfl) _)).trans w4) (show Ax 24 (n).toNat = A 24 (n).toNat from (congrFun (hFx.2 24 rfl) _)) rfl (by omega) (by omega) iv_6 (lS_30 (show Ax 15 (n).toNat = A 15 (n).toNat from (congrFun (hFx.2 15 rfl) _)) (by omega) (LI_end hFx (by decide) iv_14 (by omega)))), trivial⟩
    · have _q := h1
      obtain ⟨l1, m1, t1, x, hm1, hm2, ht1, ht2, ht3, hcm, hx1, hx2, hwE, hwP, hN1, hwC, hnx⟩ := LI_hd iv_14 (by omega); have sgF0 : Fr [59, 60] [9, 10, 25, 26, 27] Gx Ax Gx Ax := Fr_rf; have sgO0 : Fo [25, 26, 27] (c) (m1) Ax Ax := Fo_rf; have sgN0 : Fo [9, 10] (gt) (t1) Ax Ax := Fo_rf
      refine jx_ld (pc_q := 487) (l_q := L) (st_q := [.ref 66]) rfl (jl_aloadn gL_0) ?_
      refine jx_ld (pc_q := 488) (l_q := L) (st_q := [.ref 66, .ref 66]) rfl (jl_aloadn gL_0) ?_
      refine jr_get (pc_q := 491) (i := 34) (v := .ref 84) rfl rfl (by decide) rfl rfl ?_
      refine jx_ld (pc_q := 493) (l_q := L) (st_q := [.int (i32 (c)), .ref 84, .ref 66]) rfl (jl_iload gL_5) ?_
      have b2 : (-2147483648 : Int) ≤ A 17 (c).toNat ∧ A 17 (c).toNat ≤ 2147483647 := hW.2 17 _
      refine jr_ldv (pc_q := 494) (i := 17) (m := 7000) (z := c) (y := A 17 (c).toNat) rfl (by decide) rfl (by decide) (by omega) (by omega) rfl (show Ax 17 (c).toNat = A 17 (c).toNat from (congrFun (hFx.2 17 rfl) _)) ?_
      refine jx_ld (pc_q := 495) (l_q := L) (st_q := [.int (i32 (free)), .int (i32 (A 17 (c).toNat)), .ref 66]) rfl (jl_iloadn gL_3) ?_
      refine jx_vr (pc_q := 498) (as := [.int (i32 (A 17 (c).toNat)), .int (i32 (free))]) (st := []) rfl rfl rfl rfl ⟨rfl, rfl, Nat.le_of_ble_eq_true rfl⟩ rfl rfl (ME_all X 22 (dd := d) (hd := by omega) (hW := hWx) (e := A 17 (c).toNat) (free := free) (lo := c + 1) (hi := x) (mo := mo1) (e_mo := show Gx 59 = mo1 from (ex_mo1))  (h_e := ⟨(Int.le_trans (by decide : (-2147483648 : Int) ≤ -2147483648) b2.1), (Int.le_trans b2.2 (by decide : (2147483647 : Int) ≤ 2147483647))⟩) (h_free := ⟨(Int.le_trans (by decide : (-2147483648 : Int) ≤ -2147483648) rx_free.1), (Int.le_trans rx_free.2 (by decide : (2147483647 : Int) ≤ 2147483647))⟩)  (p_0 := by omega) (p_1 := by omega) (p_2 := by omega) (p_3 := by omega) (p_4 := by omega) (p_5 := (wE_mono (by omega) (by omega) (by omega) (wE_fr hFx (by decide) (by decide) (by omega) hwE))) (p_6 := by omega)) (fun o V_q hq => ?_)
      obtain ⟨G3, A4, mo2_5, rfl, rfl, hW6, hF7, hQ8, e9, p10, p11, p12, -⟩ := hq
      have hF14 := Fr_tr hFx hF7 (Fr_sub (by decide)) (Fr_sub (by decide))
      have hO15 := Fo_tr hOx hQ8 (by omega) (by omega)
      have hN16 := Fo_f hNx hF7 (by decide)
      have sgO17 := Fo_tr sgO0 hQ8 (by omega) (by omega)
      have sgN18 := Fo_f sgN0 hF7 (by decide)
      have sgF19 := Fr_tr sgF0 hF7 (Fr_sub (by decide)) (Fr_sub (by decide))
      have sf20 : lD A4 (s0) ((A 24 (n).toNat).toNat) (fr) (lv) := lD_fo hF7 (by decide) (Fo_f (lo := 0) (hi := 0) Fo_rf hF7 (by decide)) (by omega) (by omega) iv_6
      have bmo2_5 : (-2147483648 : Int) ≤ mo2_5 ∧ mo2_5 ≤ 2147483647 := e9 ▸ hW6.1 59
      refine .inl ⟨rfl, ?_⟩
      refine jx_ld (pc_q := 500) (l_q := L) (st_q := [.int (i32 (deep))]) rfl (jl_iload gL_4) ?_
      refine jx_ld (pc_q := 501) (l_q := L) (st_q := [.ref 66, .int (i32 (deep))]) rfl (jl_aloadn gL_0) ?_
      refine jx_ld (pc_q := 502) (l_q := L) (st_q := [.ref 66, .ref 66, .int (i32 (deep))]) rfl (jl_aloadn gL_0) ?_
      refine jr_get (pc_q := 505) (i := 38) (v := .ref 88) rfl rfl (by decide) rfl rfl ?_
      refine jx_ld (pc_q := 507) (l_q := L) (st_q := [.int (i32 (c)), .ref 88, .ref 66, .int (i32 (deep))]) rfl (jl_iload gL_5) ?_
      have b21 : (-2147483648 : Int) ≤ A 21 (c).toNat ∧ A 21 (c).toNat ≤ 2147483647 := hW.2 21 _
      refine jr_ldv (pc_q := 508) (i := 21) (m := 7000) (z := c) (y := A 21 (c).toNat) rfl (by decide) rfl (by decide) (by omega) (by omega) rfl (show A4 21 (c).toNat = A 21 (c).toNat from (congrFun ((hF7.2 21 rfl).trans (hFx.2 21 rfl)) _)) ?_
      refine jx_ld (pc_q := 509) (l_q := L) (st_q := [.int (i32 (free)), .int (i32 (A 21 (c).toNat)), .ref 66, .int (i32 (deep))]) rfl (jl_iloadn gL_3) ?_
      refine jx_vr (pc_q := 512) (as := [.int (i32 (A 21 (c).toNat)), .int (i32 (free))]) (st := [.int (i32 (deep))]) rfl rfl rfl rfl ⟨rfl, rfl, Nat.le_of_ble_eq_true rfl⟩ rfl rfl (hM (dd := d) (hd := by omega) (hW := hW6) (n := A 21 (c).toNat) (fr := free) (lo := x) (hi := m1) (s0 := gt) (s1 := t1) (mo := mo2_5) (e_mo := show G3 59 = mo2_5 from (e9)) (lv := lv) (e_lv := show G3 60 = lv from ((hF7.1 60 rfl).trans (fx_60)))  (h_n := ⟨(Int.le_trans (by decide : (-2147483648 : Int) ≤ -2147483648) b21.1), (Int.le_trans b21.2 (by decide : (2147483647 : Int) ≤ 2147483647))⟩) (h_fr := ⟨(Int.le_trans (by decide : (-2147483648 : Int) ≤ -2147483648) rx_free.1), (Int.le_trans rx_free.2 (by decide : (2147483647 : Int) ≤ 2147483647))⟩)  (p_0 := by omega) (p_1 := by omega) (p_2 := by omega) (p_3 := by omega) (p_4 := by omega) (p_5 := by omega) (p_6 := by omega) (p_7 := by omega) (p_8 := (PS_fr hF14 (by decide) p_8)) (p_9 := by omega) (p_10 := by omega) (p_11 := by omega) (p_12 := (wP_fr hF14 (by decide) (by omega) (by omega) hwP)) (p_13 := by omega)) (fun o V_q hq => ?_)
      obtain ⟨G22, A23, r24, mo2_25, lv2_26, rfl, rfl, hW27, hF28, hQ29, hQ30, b31, e32, e33, p34, p35, p36, p37, p38, p39, -⟩ := hq
      have hF41 := Fr_tr hF14 hF28 (Fr_sub (by decide)) (Fr_sub (by decide))
      have hO42 := Fo_tr hO15 hQ29 (by omega) (by omega)
      have hN43 := Fo_tr hN16 hQ30 (by omega) (by omega)
      have sgO44 := Fo_tr sgO17 hQ29 (by omega) (by omega)
      have sgN45 := Fo_tr sgN18 hQ30 (by omega) (by omega)
      have sgF46 := Fr_tr sgF19 hF28 (Fr_sub (by decide)) (Fr_sub (by decide))
      have sf47 : lD A23 (s0) ((A 24 (n).toNat).toNat) (fr) (lv) := lD_fo hF28 (by decide) hQ30 (by omega) (by omega) sf20
      have sf48 : lE A23 (22) (A 17 (c).toNat) (free) (mo2_5) := lE_mv (by omega) (Ag_fr hF28 (by decide)) (fun j h1 h2 => hQ29 25 j rfl (by omega)) (wE_fr hF14 (by decide) (by decide) (by omega) hwE) p12
      have bmo2_25 : (-2147483648 : Int) ≤ mo2_25 ∧ mo2_25 ≤ 2147483647 := e32 ▸ hW27.1 59
      have blv2_26 : (-2147483648 : Int) ≤ lv2_26 ∧ lv2_26 ≤ 2147483647 := e33 ▸ hW27.1 60
      refine .inr ⟨_, rfl, ?_⟩
      refine jx_st (pc_q := 515) (as := [.int (i32 (deep)), .int (i32 (r24))]) (st := []) rfl rfl ⟨rfl, Nat.le_of_ble_eq_true rfl⟩ rfl rfl rfl (c_max (dd := d) (hd := by omega) (a := deep) (b := r24)   (h_a := ⟨(Int.le_trans (by decide : (-2147483648 : Int) ≤ -2147483648) rx_deep.1), (Int.le_trans rx_deep.2 (by decide : (2147483647 : Int) ≤ 2147483647))⟩) (h_b := ⟨(Int.le_trans (by decide : (-2147483648 : Int) ≤ -2147483648) b31.1), (Int.le_trans b31.2 (by decide : (2147483647 : Int) ≤ 2147483647))⟩)  ) (fun o V_q hq => ?_)
      obtain ⟨r49, rfl, rfl, b50, q51⟩ := hq
      refine .inr ⟨_, rfl, ?_⟩
      rcases q51 with ⟨a52, a53⟩ | ⟨a54, a55⟩
      · have _q : True := trivial
        refine jx_ld (pc_q := 517) (l_q := jSto1 L 4 (.int (i32 (r49)))) (st_q := []) rfl rfl ?_
        obtain ⟨L56, eL56⟩ : ∃ q, q = jSto1 L 4 (.int (i32 (r49))) := ⟨_, rfl⟩
        rw [← eL56]
        have gL56_0 : jGet L56 0 = some (.ref 66) := eL56 ▸ jg_ne (by decide) gL_0 rfl
        have gL56_1 : jGet L56 1 = some (.int (i32 (n))) := eL56 ▸ jg_ne (by decide) gL_1 rfl
        have gL56_2 : jGet L56 2 = some (.int (i32 (fr))) := eL56 ▸ jg_ne (by decide) gL_2 rfl
        have gL56_3 : jGet L56 3 = some (.int (i32 (free))) := eL56 ▸ jg_ne (by decide) gL_3 rfl
        have gL56_5 : jGet L56 5 = some (.int (i32 (c))) := eL56 ▸ jg_ne (by decide) gL_5 rfl
        have gL56_4 : jGet L56 4 = some (.int (i32 (r49))) := eL56 ▸ jg_eq
        refine jx_ld (pc_q := 518) (l_q := L56) (st_q := [.ref 66]) rfl (jl_aloadn gL56_0) ?_
        refine jr_get (pc_q := 521) (i := 39) (v := .ref 89) rfl rfl (by decide) rfl rfl ?_
        refine jx_ld (pc_q := 523) (l_q := L56) (st_q := [.int (i32 (c)), .ref 89]) rfl (jl_iload gL56_5) ?_
        have b57 : (-2147483648 : Int) ≤ A 22 (c).toNat ∧ A 22 (c).toNat ≤ 2147483647 := hW.2 22 _
        refine jr_ldv (pc_q := 524) (i := 22) (m := 7000) (z := c) (y := A 22 (c).toNat) rfl (by decide) rfl (by decide) (by omega) (by omega) rfl (show A23 22 (c).toNat = A 22 (c).toNat from (congrFun ((hF28.2 22 rfl).trans ((hF7.2 22 rfl).trans (hFx.2 22 rfl))) _)) ?_
        refine jx_ld (pc_q := 526) (l_q := jSto1 L56 5 (.int (i32 (A 22 (c).toNat)))) (st_q := []) rfl rfl ?_
        obtain ⟨L58, eL58⟩ : ∃ q, q = jSto1 L56 5 (.int (i32 (A 22 (c).toNat))) := ⟨_, rfl⟩
        rw [← eL58]
        have gL58_0 : jGet L58 0 = some (.ref 66) := eL58 ▸ jg_ne (by decide) gL56_0 rfl
        have gL58_1 : jGet L58 1 = some (.int (i32 (n))) := eL58 ▸ jg_ne (by decide) gL56_1 rfl
        have gL58_2 : jGet L58 2 = some (.int (i32 (fr))) := eL58 ▸ jg_ne (by decide) gL56_2 rfl
        have gL58_3 : jGet L58 3 = some (.int (i32 (free))) := eL58 ▸ jg_ne (by decide) gL56_3 rfl
        have gL58_4 : jGet L58 4 = some (.int (i32 (r49))) := eL58 ▸ jg_ne (by decide) gL56_4 rfl
        have gL58_5 : jGet L58 5 = some (.int (i32 (A 22 (c).toNat))) := eL58 ▸ jg_eq
        refine jx_go (tg := 481) rfl rfl ?_
        exact ih481 _ (by omega) L58 G22 A23 (free) (r49) (A 22 (c).toNat) (mo2_25) (m1) (t1) rfl gL58_0 gL58_1 gL58_2 gL58_3 gL58_4 gL58_5 hW27 hF41 hO42 hN43 ((e32)) (Eq.trans (show G22 60 = lv2_26 from (e33)) (by omega)) (by omega) (by omega) (by omega) (by omega) (by omega) (by omega) (by omega) (by omega) (by omega) (sf47) (by omega) (by omega) (by omega) (by omega) (by omega) (by omega) (by omega) ((hnx _ _ _ (LI_nx hFx (by decide) sgF46 (by decide) (hcm ▸ sgO44) sgN45 (by omega) (by omega) hwC hN1 (lE_sz (by omega) (by omega) sf48) p39 (by omega) (by omega) (by omega) (tr_k hF41 (by decide) rfl) (tr_k hF41 (by decide) rfl))))
      · have _q : True := trivial
        refine jx_ld (pc_q := 517) (l_q := jSto1 L 4 (.int (i32 (r49)))) (st_q := []) rfl rfl ?_
        obtain ⟨L59, eL59⟩ : ∃ q, q = jSto1 L 4 (.int (i32 (r49))) := ⟨_, rfl⟩
        rw [← eL59]
        have gL59_0 : jGet L59 0 = some (.ref 66) := eL59 ▸ jg_ne (by decide) gL_0 rfl
        have gL59_1 : jGet L59 1 = some (.int (i32 (n))) := eL59 ▸ jg_ne (by decide) gL_1 rfl
        have gL59_2 : jGet L59 2 = some (.int (i32 (fr))) := eL59 ▸ jg_ne (by decide) gL_2 rfl
        have gL59_3 : jGet L59 3 = some (.int (i32 (free))) := eL59 ▸ jg_ne (by decide) gL_3 rfl
        have gL59_5 : jGet L59 5 = some (.int (i32 (c))) := eL59 ▸ jg_ne (by decide) gL_5 rfl
        have gL59_4 : jGet L59 4 = some (.int (i32 (r49))) := eL59 ▸ jg_eq
        refine jx_ld (pc_q := 518) (l_q := L59) (st_q := [.ref 66]) rfl (jl_aloadn gL59_0) ?_
        refine jr_get (pc_q := 521) (i := 39) (v := .ref 89) rfl rfl (by decide) rfl rfl ?_
        refine jx_ld (pc_q := 523) (l_q := L59) (st_q := [.int (i32 (c)), .ref 89]) rfl (jl_iload gL59_5) ?_
        have b60 : (-2147483648 : Int) ≤ A 22 (c).toNat ∧ A 22 (c).toNat ≤ 2147483647 := hW.2 22 _
        refine jr_ldv (pc_q := 524) (i := 22) (m := 7000) (z := c) (y := A 22 (c).toNat) rfl (by decide) rfl (by decide) (by omega) (by omega) rfl (show A23 22 (c).toNat = A 22 (c).toNat from (congrFun ((hF28.2 22 rfl).trans ((hF7.2 22 rfl).trans (hFx.2 22 rfl))) _)) ?_
        refine jx_ld (pc_q := 526) (l_q := jSto1 L59 5 (.int (i32 (A 22 (c).toNat)))) (st_q := []) rfl rfl ?_
        obtain ⟨L61, eL61⟩ : ∃ q, q = jSto1 L59 5 (.int (i32 (A 22 (c).toNat))) := ⟨_, rfl⟩
        rw [← eL61]
        have gL61_0 : jGet L61 0 = some (.ref 66) := eL61 ▸ jg_ne (by decide) gL59_0 rfl
        have gL61_1 : jGet L61 1 = some (.int (i32 (n))) := eL61 ▸ jg_ne (by decide) gL59_1 rfl
        have gL61_2 : jGet L61 2 = some (.int (i32 (fr))) := eL61 ▸ jg_ne (by decide) gL59_2 rfl
        have gL61_3 : jGet L61 3 = some (.int (i32 (free))) := eL61 ▸ jg_ne (by decide) gL59_3 rfl
        have gL61_4 : jGet L61 4 = some (.int (i32 (r49))) := eL61 ▸ jg_ne (by decide) gL59_4 rfl
        have gL61_5 : jGet L61 5 = some (.int (i32 (A 22 (c).toNat))) := eL61 ▸ jg_eq
        refine jx_go (tg := 481) rfl rfl ?_
        exact ih481 _ (by omega) L61 G22 A23 (free) (r49) (A 22 (c).toNat) (mo2_25) (m1) (t1) rfl gL61_0 gL61_1 gL61_2 gL61_3 gL61_4 gL61_5 hW27 hF41 hO42 hN43 ((e32)) (Eq.trans (show G22 60 = lv2_26 from (e33)) (by omega)) (by omega) (by omega) (by omega) (by omega) (by omega) (by omega) (by omega) (by omega) (by omega) (sf47) (by omega) (by omega) (by omega) (by omega) (by omega) (by omega) (by omega) ((hnx _ _ _ (LI_nx hFx (by decide) sgF46 (by decide) (hcm ▸ sgO44) sgN45 (by omega) (by omega) hwC hN1 (lE_sz (by omega) (by omega) sf48) p39 (by omega) (by omega) (by omega) (tr_k hF41 (by decide) rfl) (tr_k hF41 (by decide) rfl))))
set_option maxRecDepth 20000 in
set_option maxHeartbeats 4000000 in
theorem c_measure_s_at_397 {X : jX} {k : Nat} (hM : MM X k) {d : Nat} {Vs : Nat → Prop} {sb pb : Int} {c0 c1 : jC} {G : Nat → Int} {A : Nat → Nat → Int} {T : jH} {n fr : Int} {lo hi s0 s1 : Int} {mo lv : Int} (hd : 2 * (k + 1) + 30 ≤ d + 1) (hW : Wk G A) (e_mo : G 59 = mo) (e_lv : G 60 = lv) (h_n : (-2147483648 : Int) ≤ n ∧ n ≤ 2147483647) (h_fr : (-2147483648 : Int) ≤ fr ∧ fr ≤ 2147483647) (p_0 : 0 ≤ lo) (p_1 : hi ≤ 6999) (p_2 : 0 ≤ s0) (p_3 : s1 ≤ sb) (p_4 : sb ≤ 202) (p_5 : 0 ≤ lv) (p_6 : lv + ((k + 1 : Nat) : Int) ≤ 60) (p_7 : mo ≤ 1000000) (p_8 : PS A (pb)) (p_9 : 1 ≤ fr) (p_10 : fr ≤ 70 + 64 * s0 + 20 * lo) (p_11 : fr ≤ mo) (p_12 : wP A sb pb (k + 1) (Vs) (n) (lo) (hi) (s0) (s1)) (p_13 : pb ≤ 24) : ∀ (m : Nat) (L : jL) (Gx : Nat → Int) (Ax : Nat → Nat → Int) (free c mo1 w1 gm gt al : Int), (hi - gm).toNat = m → jGet L 0 = some (.ref 66) → jGet L 1 = some (.int (i32 (n))) → jGet L 2 = some (.int (i32 (fr))) → jGet L 3 = some (.int (i32 free)) → jGet L 7 = some (.int (i32 c)) → jGet L 5 = some (.long (i64 al)) → Wk Gx Ax → Fr [59, 60] [9, 10, 25, 26, 27] G A Gx Ax → Fo [25, 26, 27] (lo) (hi) A Ax → Fo [9, 10] (s0) (s1) A Ax → Gx 59 = mo1 → Ax 25 (n).toNat = w1 → Gx 60 = lv → ((-2147483648 : Int) ≤ free ∧ free ≤ 2147483647) → ((-2147483648 : Int) ≤ c ∧ c ≤ 2147483647) → (mo ≤ mo1) → (mo1 ≤ 1000000) → (free = fr + zS A s0 (A 24 (n).toNat).toNat) → (1 ≤ free) → (free ≤ mo1) → (free ≤ 70 + 64 * (s0 + A 24 (n).toNat) + 20 * lo) → (lD Ax (s0) ((A 24 (n).toNat).toNat) (fr) (lv)) → (A 15 (n).toNat = 28) → (w1 = free) → (free + 3 ≤ mo1) → (n + 1 ≤ gm) → (gm ≤ hi) → ((s0 + A 24 (n).toNat) ≤ gt) → (gt ≤ s1) → (LB A Ax sb pb k ((Vd Vs s0 (s0 + A 24 (n).toNat))) (n) (c) (n + 1) (hi) ((s0 + A 24 (n).toNat)) (s1) (lv) (al) (gm) (gt)) → wj X d jm320 (397, L, [], rV c0 c1 Gx Ax T) (fun o V_q => ∃ (G_q : Nat → Int) (A_q : Nat → Nat → Int) (r : Int) (mo2 : Int) (lv2 : Int), V_q = rV c0 c1 G_q A_q T ∧ o = .inl (some (.int (i32 r))) ∧ Wk G_q A_q ∧ Fr [59, 60] [9, 10, 25, 26, 27] G A G_q A_q ∧ Fo [25, 26, 27] (lo) (hi) A A_q ∧ Fo [9, 10] (s0) (s1) A A_q ∧ ((-2147483648 : Int) ≤ r ∧ r ≤ 2147483647) ∧ G_q 59 = mo2 ∧ G_q 60 = lv2 ∧ (mo ≤ mo2) ∧ (mo2 ≤ 1000000) ∧ (lv2 = lv) ∧ (0 ≤ r) ∧ (r ≤ 1000000) ∧ (lP A_q (k + 1) (n) (fr) (lv) (mo2) (r)) ∧ True) := by
  have hF0 : Fr [59, 60] [9, 10, 25, 26, 27] G A G A := Fr_rf
  have hO0 : Fo [25, 26, 27] (lo) (hi) A A := Fo_rf
  have hN0 : Fo [9, 10] (s0) (s1) A A := Fo_rf
  have b_mo : (-2147483648 : Int) ≤ mo ∧ mo ≤ 2147483647 := e_mo ▸ hW.1 59
  have b_lv : (-2147483648 : Int) ≤ lv ∧ lv ≤ 2147483647 := e_lv ▸ hW.1 60
  have hp12 := p_12
  unfold wP at hp12
  obtain ⟨w1, w2, w3, w4, w5, w6, w7, w8⟩ := hp12
  intro m
  induction m using Nat.strongRecOn with
  | ind m ih397 =>
    intro L Gx Ax free c mo1 w1 gm gt al hm gL_0 gL_1 gL_2 gL_3 gL_7 gL_5 hWx hFx hOx hNx ex_mo1 ex_w1 fx_60 rx_free rx_c iv_0 iv_1 iv_2 iv_3 iv_4 iv_5 iv_6 iv_7 iv_8 iv_9 iv_10 iv_11 iv_12 iv_13 iv_14
    have b_mo1 : (-2147483648 : Int) ≤ mo1 ∧ mo1 ≤ 2147483647 := ex_mo1 ▸ hWx.1 59
    have _q : True := trivial
    refine jx_ld (pc_q := 399) (l_q := L) (st_q := [.int (i32 (c))]) rfl (jl_iload gL_7) ?_
    refine jx_if_le (pc_q := 402) (tg := 426) rfl rfl rfl (Int.le_trans (by decide : (-2147483648 : Int) ≤ -2147483648) rx_c.1) (Int.le_trans rx_c.2 (by decide : (2147483647 : Int) ≤ 2147483647)) (fun h62 => ?_) (fun h62 => ?_)
    · have _q := h62
      have hend := LB_end hFx (by decide) iv_14 (by omega)
      refine jx_ld (pc_q := 428) (l_q := L) (st_q := [.long (i64 (al))]) rfl (jl_lload gL_5) ?_
      refine jx_st (pc_q := 431) (as := [.long (i64 (al))]) (st := []) rfl rfl ⟨rfl, Nat.le_of_ble_eq_true rfl⟩ rfl rfl rfl (c_capped (dd := d) (hd := by omega) (v := al)   (h_v := ⟨(by omega), (by omega)⟩)  (p_0 := by omega)) (fun o V_q hq => ?_)
      obtain ⟨r63, rfl, rfl, b64, q65⟩ := hq
      refine .inr ⟨_, rfl, ?_⟩
      rcases q65 with ⟨a66, a67⟩ | ⟨a68, a69⟩
      · have _q : True := trivial
        refine jx_rt (v := some (.int (i32 (r63)))) rfl rfl rfl rfl rfl rfl ?_
        exact ⟨_, _, _, mo1, lv, rfl, rfl, hWx, hFx, hOx, hNx, by omega, (ex_mo1), (fx_60), by omega, by omega, by omega, by omega, by omega, (lP_mk (m := (A 24 (n).toNat).toNat) hFx (by decide) ((show Ax 23 (n).toNat = A 23 (n).toNat from (congrFun (hFx.2 23 rfl) _)).trans w4) (show Ax 24 (n).toNat = A 24 (n).toNat from (congrFun (hFx.2 24 rfl) _)) rfl (by omega) (by omega) iv_6 (lS_28 (show Ax 15 (n).toNat = A 15 (n).toNat from (congrFun (hFx.2 15 rfl) _)) (by omega) ⟨(show Ax 25 (n).toNat = w1 from (ex_w1)).trans (by omega), by omega, fun l hl => ⟨(hend.1 l hl).1, fun hD => by have := (hend.1 l hl).2 (by omega); omega⟩⟩)), trivial⟩
      · have _q : True := trivial
        refine jx_rt (v := some (.int (i32 (r63)))) rfl rfl rfl rfl rfl rfl ?_
        exact ⟨_, _, _, mo1, lv, rfl, rfl, hWx, hFx, hOx, hNx, by omega, (ex_mo1), (fx_60), by omega, by omega, by omega, by omega, by omega, (lP_mk (m := (A 24 (n).toNat).toNat) hFx (by decide) ((show Ax 23 (n).toNat = A 23 (n).toNat from (congrFun (hFx.2 23 rfl) _)).trans w4) (show Ax 24 (n).toNat = A 24 (n).toNat from (congrFun (hFx.2 24 rfl) _)) rfl (by omega) (by omega) iv_6 (lS_28 (show Ax 15 (n).toNat = A 15 (n).toNat from (congrFun (hFx.2 15 rfl) _)) (by omega) ⟨(show Ax 25 (n).toNat = w1 from (ex_w1)).trans (by omega), by omega, fun l hl => ⟨(hend.1 l hl).1, fun hD => by have := (hend.1 l hl).2 (by omega); omega⟩⟩)), trivial⟩
    · have _q := h62
      obtain ⟨l1, m1, t1, hm1, hm2, hm3, ht1, ht2, ht3, ha3, ham, hwP, hN1, hwC, hnx⟩ := LB_hd iv_14 (by omega); have hwi := wP_in hwP; have sgF0 : Fr [59, 60] [9, 10, 25, 26, 27] Gx Ax Gx Ax := Fr_rf; have sgO0 : Fo [25, 26, 27] (gm) (m1) Ax Ax := Fo_rf; have sgN0 : Fo [9, 10] (gt) (t1) Ax Ax := Fo_rf
      refine jx_ld (pc_q := 404) (l_q := L) (st_q := [.long (i64 (al))]) rfl (jl_lload gL_5) ?_
      refine jx_ld (pc_q := 405) (l_q := L) (st_q := [.ref 66, .long (i64 (al))]) rfl (jl_aloadn gL_0) ?_
      refine jx_ld (pc_q := 407) (l_q := L) (st_q := [.int (i32 (c)), .ref 66, .long (i64 (al))]) rfl (jl_iload gL_7) ?_
      refine jx_vr (pc_q := 410) (as := [.int (i32 (c))]) (st := [.long (i64 (al))]) rfl rfl rfl rfl ⟨rfl, rfl, Nat.le_of_ble_eq_true rfl⟩ rfl rfl (c_measureBranch (dd := d) (hM := hM) (hd := by omega) (hW := hWx) (n := c) (lo := gm) (hi := m1) (s0 := gt) (s1 := t1) (mo := mo1) (e_mo := show Gx 59 = mo1 from (ex_mo1)) (lv := lv) (e_lv := show Gx 60 = lv from (fx_60))  (h_n := ⟨(Int.le_trans (by decide : (-2147483648 : Int) ≤ -2147483648) rx_c.1), (Int.le_trans rx_c.2 (by decide : (2147483647 : Int) ≤ 2147483647))⟩)  (p_0 := by omega) (p_1 := by omega) (p_2 := by omega) (p_3 := by omega) (p_4 := by omega) (p_5 := by omega) (p_6 := by omega) (p_7 := by omega) (p_8 := (PS_fr hFx (by decide) p_8)) (p_9 := (wP_fr hFx (by decide) (by omega) (by omega) hwP)) (p_10 := by omega)) (fun o V_q hq => ?_)
      obtain ⟨G70, A71, r72, mo2_73, lv2_74, zs2_75, zd2_76, rfl, rfl, hW77, hF78, hQ79, hQ80, b81, e82, e83, e84, e85, p86, p87, p88, p89, p90, p91, p92, q93⟩ := hq
      have hF94 := Fr_tr hFx hF78 (Fr_sub (by decide)) (Fr_sub (by decide))
      have hO95 := Fo_tr hOx hQ79 (by omega) (by omega)
      have hN96 := Fo_tr hNx hQ80 (by omega) (by omega)
      have sgO97 := Fo_tr sgO0 hQ79 (by omega) (by omega)
      have sgN98 := Fo_tr sgN0 hQ80 (by omega) (by omega)
      have sgF99 := Fr_tr sgF0 hF78 (Fr_sub (by decide)) (Fr_sub (by decide))
      have k100 : A71 25 (n).toNat = w1 := (hQ79 25 _ rfl (by omega)).trans (show Ax 25 (n).toNat = w1 from (ex_w1))
      have sf101 : lD A71 (s0) ((A 24 (n).toNat).toNat) (fr) (lv) := lD_fo hF78 (by decide) hQ80 (by omega) (by omega) iv_6
      have bmo2_73 : (-2147483648 : Int) ≤ mo2_73 ∧ mo2_73 ≤ 2147483647 := e82 ▸ hW77.1 59
      have blv2_74 : (-2147483648 : Int) ≤ lv2_74 ∧ lv2_74 ≤ 2147483647 := e83 ▸ hW77.1 60
      have bzs2_75 : (-2147483648 : Int) ≤ zs2_75 ∧ zs2_75 ≤ 2147483647 := e84 ▸ hW77.2 26 _
      have bzd2_76 : (-2147483648 : Int) ≤ zd2_76 ∧ zd2_76 ≤ 2147483647 := e85 ▸ hW77.2 27 _
      refine .inr ⟨_, rfl, ?_⟩
      rcases q93 with a102 | a103
      · have _q : True := trivial
        refine jx_i2n (pc_q := 411) rfl rfl (Int.le_trans (by decide : (-2147483648 : Int) ≤ -2147483648) b81.1) (Int.le_trans b81.2 (by decide : (2147483647 : Int) ≤ 2147483647)) ?_
        refine jx_nadd (pc_q := 412) rfl rfl ?_
        refine jx_ld (pc_q := 414) (l_q := jSto2 L 5 (.long (i64 ((al + r72))))) (st_q := []) rfl rfl ?_
        obtain ⟨L104, eL104⟩ : ∃ q, q = jSto2 L 5 (.long (i64 ((al + r72)))) := ⟨_, rfl⟩
        rw [← eL104]
        have gL104_0 : jGet L104 0 = some (.ref 66) := eL104 ▸ jg_ne2 (by decide) (by decide) gL_0 (.inl rfl)
        have gL104_1 : jGet L104 1 = some (.int (i32 (n))) := eL104 ▸ jg_ne2 (by decide) (by decide) gL_1 (.inl rfl)
        have gL104_2 : jGet L104 2 = some (.int (i32 (fr))) := eL104 ▸ jg_ne2 (by decide) (by decide) gL_2 (.inl rfl)
        have gL104_3 : jGet L104 3 = some (.int (i32 (free))) := eL104 ▸ jg_ne2 (by decide) (by decide) gL_3 (.inl rfl)
        have gL104_7 : jGet L104 7 = some (.int (i32 (c))) := eL104 ▸ jg_ne2 (by decide) (by decide) gL_7 (.inl rfl)
        have gL104_5 : jGet L104 5 = some (.long (i64 ((al + r72)))) := eL104 ▸ jg_eq2
        refine jx_ld (pc_q := 415) (l_q := L104) (st_q := [.ref 66]) rfl (jl_aloadn gL104_0) ?_
        refine jr_get (pc_q := 418) (i := 39) (v := .ref 89) rfl rfl (by decide) rfl rfl ?_
        refine jx_ld (pc_q := 420) (l_q := L104) (st_q := [.int (i32 (c)), .ref 89]) rfl (jl_iload gL104_7) ?_
        have b105 : (-2147483648 : Int) ≤ A 22 (c).toNat ∧ A 22 (c).toNat ≤ 2147483647 := hW.2 22 _
        refine jr_ldv (pc_q := 421) (i := 22) (m := 7000) (z := c) (y := A 22 (c).toNat) rfl (by decide) rfl (by decide) (by omega) (by omega) rfl (show A71 22 (c).toNat = A 22 (c).toNat from (congrFun ((hF78.2 22 rfl).trans (hFx.2 22 rfl)) _)) ?_
        refine jx_ld (pc_q := 423) (l_q := jSto1 L104 7 (.int (i32 (A 22 (c).toNat)))) (st_q := []) rfl rfl ?_
        obtain ⟨L106, eL106⟩ : ∃ q, q = jSto1 L104 7 (.int (i32 (A 22 (c).toNat))) := ⟨_, rfl⟩
        rw [← eL106]
        have gL106_0 : jGet L106 0 = some (.ref 66) := eL106 ▸ jg_ne (by decide) gL104_0 rfl
        have gL106_1 : jGet L106 1 = some (.int (i32 (n))) := eL106 ▸ jg_ne (by decide) gL104_1 rfl
        have gL106_2 : jGet L106 2 = some (.int (i32 (fr))) := eL106 ▸ jg_ne (by decide) gL104_2 rfl
        have gL106_3 : jGet L106 3 = some (.int (i32 (free))) := eL106 ▸ jg_ne (by decide) gL104_3 rfl
        have gL106_5 : jGet L106 5 = some (.long (i64 ((al + r72)))) := eL106 ▸ jg_nel (by decide) gL104_5 (by decide)
        have gL106_7 : jGet L106 7 = some (.int (i32 (A 22 (c).toNat))) := eL106 ▸ jg_eq
        refine jx_go (tg := 397) rfl rfl ?_
        exact ih397 _ (by omega) L106 G70 A71 (free) (A 22 (c).toNat) (mo2_73) (w1) (m1) (t1) ((al + r72)) rfl gL106_0 gL106_1 gL106_2 gL106_3 gL106_7 gL106_5 hW77 hF94 hO95 hN96 ((e82)) ((k100)) (Eq.trans (show G70 60 = lv2_74 from (e83)) (by omega)) (by omega) (by omega) (by omega) (by omega) (by omega) (by omega) (by omega) (by omega) (sf101) (by omega) (by omega) (by omega) (by omega) (by omega) (by omega) (by omega) ((hnx _ _ (LB_nx hFx (by decide) sgF99 (by decide) sgO97 sgN98 (by omega) (by omega) hwC hN1 p92 (show A71 26 (c).toNat = zs2_75 from (e84)) (show A71 27 (c).toNat = zd2_76 from (e85)) (by omega) (by omega) (by omega) rfl) (by omega) (by omega)))
      · have _q : True := trivial
        refine jx_i2n (pc_q := 411) rfl rfl (Int.le_trans (by decide : (-2147483648 : Int) ≤ -2147483648) b81.1) (Int.le_trans b81.2 (by decide : (2147483647 : Int) ≤ 2147483647)) ?_
        refine jx_nadd (pc_q := 412) rfl rfl ?_
        refine jx_ld (pc_q := 414) (l_q := jSto2 L 5 (.long (i64 ((al + r72))))) (st_q := []) rfl rfl ?_
        obtain ⟨L107, eL107⟩ : ∃ q, q = jSto2 L 5 (.long (i64 ((al + r72)))) := ⟨_, rfl⟩
        rw [← eL107]
        have gL107_0 : jGet L107 0 = some (.ref 66) := eL107 ▸ jg_ne2 (by decide) (by decide) gL_0 (.inl rfl)
        have gL107_1 : jGet L107 1 = some (.int (i32 (n))) := eL107 ▸ jg_ne2 (by decide) (by decide) gL_1 (.inl rfl)
        have gL107_2 : jGet L107 2 = some (.int (i32 (fr))) := eL107 ▸ jg_ne2 (by decide) (by decide) gL_2 (.inl rfl)
        have gL107_3 : jGet L107 3 = some (.int (i32 (free))) := eL107 ▸ jg_ne2 (by decide) (by decide) gL_3 (.inl rfl)
        have gL107_7 : jGet L107 7 = some (.int (i32 (c))) := eL107 ▸ jg_ne2 (by decide) (by decide) gL_7 (.inl rfl)
        have gL107_5 : jGet L107 5 = some (.long (i64 ((al + r72)))) := eL107 ▸ jg_eq2
        refine jx_ld (pc_q := 415) (l_q := L107) (st_q := [.ref 66]) rfl (jl_aloadn gL107_0) ?_
        refine jr_get (pc_q := 418) (i := 39) (v := .ref 89) rfl rfl (by decide) rfl rfl ?_
        refine jx_ld (pc_q := 420) (l_q := L107) (st_q := [.int (i32 (c)), .ref 89]) rfl (jl_iload gL107_7) ?_
        have b108 : (-2147483648 : Int) ≤ A 22 (c).toNat ∧ A 22 (c).toNat ≤ 2147483647 := hW.2 22 _
        refine jr_ldv (pc_q := 421) (i := 22) (m := 7000) (z := c) (y := A 22 (c).toNat) rfl (by decide) rfl (by decide) (by omega) (by omega) rfl (show A71 22 (c).toNat = A 22 (c).toNat from (congrFun ((hF78.2 22 rfl).trans (hFx.2 22 rfl)) _)) ?_
        refine jx_ld (pc_q := 423) (l_q := jSto1 L107 7 (.int (i32 (A 22 (c).toNat)))) (st_q := []) rfl rfl ?_
        obtain ⟨L109, eL109⟩ : ∃ q, q = jSto1 L107 7 (.int (i32 (A 22 (c).toNat))) := ⟨_, rfl⟩
        rw [← eL109]
        have gL109_0 : jGet L109 0 = some (.ref 66) := eL109 ▸ jg_ne (by decide) gL107_0 rfl
        have gL109_1 : jGet L109 1 = some (.int (i32 (n))) := eL109 ▸ jg_ne (by decide) gL107_1 rfl
        have gL109_2 : jGet L109 2 = some (.int (i32 (fr))) := eL109 ▸ jg_ne (by decide) gL107_2 rfl
        have gL109_3 : jGet L109 3 = some (.int (i32 (free))) := eL109 ▸ jg_ne (by decide) gL107_3 rfl
        have gL109_5 : jGet L109 5 = some (.long (i64 ((al + r72)))) := eL109 ▸ jg_nel (by decide) gL107_5 (by decide)
        have gL109_7 : jGet L109 7 = some (.int (i32 (A 22 (c).toNat))) := eL109 ▸ jg_eq
        refine jx_go (tg := 397) rfl rfl ?_
        exact ih397 _ (by omega) L109 G70 A71 (free) (A 22 (c).toNat) (mo2_73) (w1) (m1) (t1) ((al + r72)) rfl gL109_0 gL109_1 gL109_2 gL109_3 gL109_7 gL109_5 hW77 hF94 hO95 hN96 ((e82)) ((k100)) (Eq.trans (show G70 60 = lv2_74 from (e83)) (by omega)) (by omega) (by omega) (by omega) (by omega) (by omega) (by omega) (by omega) (by omega) (sf101) (by omega) (by omega) (by omega) (by omega) (by omega) (by omega) (by omega) ((hnx _ _ (LB_nx hFx (by decide) sgF99 (by decide) sgO97 sgN98 (by omega) (by omega) hwC hN1 p92 (show A71 26 (c).toNat = zs2_75 from (e84)) (show A71 27 (c).toNat = zd2_76 from (e85)) (by omega) (by omega) (by omega) rfl) (by omega) (by omega)))
set_option maxRecDepth 20000 in
set_option maxHeartbeats 4000000 in
theorem c_measure_s_at_262 {X : jX} {k : Nat} (hM : MM X k) {d : Nat} {Vs : Nat → Prop} {sb pb : Int} {c0 c1 : jC} {G : Nat → Int} {A : Nat → Nat → Int} {T : jH} {n fr : Int} {lo hi s0 s1 : Int} {mo lv : Int} (hd : 2 * (k + 1) + 30 ≤ d + 1) (hW : Wk G A) (e_mo : G 59 = mo) (e_lv : G 60 = lv) (h_n : (-2147483648 : Int) ≤ n ∧ n ≤ 2147483647) (h_fr : (-2147483648 : Int) ≤ fr ∧ fr ≤ 2147483647) (p_0 : 0 ≤ lo) (p_1 : hi ≤ 6999) (p_2 : 0 ≤ s0) (p_3 : s1 ≤ sb) (p_4 : sb ≤ 202) (p_5 : 0 ≤ lv) (p_6 : lv + ((k + 1 : Nat) : Int) ≤ 60) (p_7 : mo ≤ 1000000) (p_8 : PS A (pb)) (p_9 : 1 ≤ fr) (p_10 : fr ≤ 70 + 64 * s0 + 20 * lo) (p_11 : fr ≤ mo) (p_12 : wP A sb pb (k + 1) (Vs) (n) (lo) (hi) (s0) (s1)) (p_13 : pb ≤ 24) : ∀ (m : Nat) (L : jL) (Gx : Nat → Int) (Ax : Nat → Nat → Int) (free deep c mo1 gm gt : Int), (hi - gm).toNat = m → jGet L 0 = some (.ref 66) → jGet L 1 = some (.int (i32 (n))) → jGet L 2 = some (.int (i32 (fr))) → jGet L 3 = some (.int (i32 free)) → jGet L 4 = some (.int (i32 deep)) → jGet L 5 = some (.int (i32 c)) → Wk Gx Ax → Fr [59, 60] [9, 10, 25, 26, 27] G A Gx Ax → Fo [25, 26, 27] (lo) (hi) A Ax → Fo [9, 10] (s0) (s1) A Ax → Gx 59 = mo1 → Gx 60 = lv → ((-2147483648 : Int) ≤ free ∧ free ≤ 2147483647) → ((-2147483648 : Int) ≤ deep ∧ deep ≤ 2147483647) → ((-2147483648 : Int) ≤ c ∧ c ≤ 2147483647) → (mo ≤ mo1) → (mo1 ≤ 1000000) → (free = fr + zS A s0 (A 24 (n).toNat).toNat) → (1 ≤ free) → (free ≤ mo1) → (free ≤ 70 + 64 * (s0 + A 24 (n).toNat) + 20 * lo) → (lD Ax (s0) ((A 24 (n).toNat).toNat) (fr) (lv)) → (A 15 (n).toNat = 26) → (0 ≤ deep) → (deep ≤ 1000000) → (n + 1 ≤ gm) → (gm ≤ hi) → ((s0 + A 24 (n).toNat) ≤ gt) → (gt ≤ s1) → (LSq A Ax sb pb k ((Vd Vs s0 (s0 + A 24 (n).toNat))) (n) (c) (n + 1) (hi) ((s0 + A 24 (n).toNat)) (s1) (free) (lv) (mo1) (deep) (gm) (gt)) → wj X d jm320 (262, L, [], rV c0 c1 Gx Ax T) (fun o V_q => ∃ (G_q : Nat → Int) (A_q : Nat → Nat → Int) (r : Int) (mo2 : Int) (lv2 : Int), V_q = rV c0 c1 G_q A_q T ∧ o = .inl (some (.int (i32 r))) ∧ Wk G_q A_q ∧ Fr [59, 60] [9, 10, 25, 26, 27] G A G_q A_q ∧ Fo [25, 26, 27] (lo) (hi) A A_q ∧ Fo [9, 10] (s0) (s1) A A_q ∧ ((-2147483648 : Int) ≤ r ∧ r ≤ 2147483647) ∧ G_q 59 = mo2 ∧ G_q 60 = lv2 ∧ (mo ≤ mo2) ∧ (mo2 ≤ 1000000) ∧ (lv2 = lv) ∧ (0 ≤ r) ∧ (r ≤ 1000000) ∧ (lP A_q (k + 1) (n) (fr) (lv) (mo2) (r)) ∧ True) := by
  have hF0 : Fr [59, 60] [9, 10, 25, 26, 27] G A G A := Fr_rf
  have hO0 : Fo [25, 26, 27] (lo) (hi) A A := Fo_rf
  have hN0 : Fo [9, 10] (s0) (s1) A A := Fo_rf
  have b_mo : (-2147483648 : Int) ≤ mo ∧ mo ≤ 2147483647 := e_mo ▸ hW.1 59
  have b_lv : (-2147483648 : Int) ≤ lv ∧ lv ≤ 2147483647 := e_lv ▸ hW.1 60
  have hp12 := p_12
  unfold wP at hp12
  obtain ⟨w1, w2, w3, w4, w5, w6, w7, w8⟩ := hp12
  intro m
  induction m using Nat.strongRecOn with
  | ind m ih262 =>
    intro L Gx Ax free deep c mo1 gm gt hm gL_0 gL_1 gL_2 gL_3 gL_4 gL_5 hWx hFx hOx hNx ex_mo1 fx_60 rx_free rx_deep rx_c iv_0 iv_1 iv_2 iv_3 iv_4 iv_5 iv_6 iv_7 iv_8 iv_9 iv_10 iv_11 iv_12 iv_13 iv_14
    have b_mo1 : (-2147483648 : Int) ≤ mo1 ∧ mo1 ≤ 2147483647 := ex_mo1 ▸ hWx.1 59
    have _q : True := trivial
    refine jx_ld (pc_q := 264) (l_q := L) (st_q := [.int (i32 (c))]) rfl (jl_iload gL_5) ?_
    refine jx_if_le (pc_q := 267) (tg := 293) rfl rfl rfl (Int.le_trans (by decide : (-2147483648 : Int) ≤ -2147483648) rx_c.1) (Int.le_trans rx_c.2 (by decide : (2147483647 : Int) ≤ 2147483647)) (fun h110 => ?_) (fun h110 => ?_)
    · have _q := h110
      refine jx_ld (pc_q := 295) (l_q := L) (st_q := [.int (i32 (deep))]) rfl (jl_iload gL_4) ?_
      refine jx_rt (v := some (.int (i32 (deep)))) rfl rfl rfl rfl rfl rfl ?_
      exact ⟨_, _, _, mo1, lv, rfl, rfl, hWx, hFx, hOx, hNx, by omega, (ex_mo1), (fx_60), by omega, by omega, by omega, by omega, by omega, (lP_mk (m := (A 24 (n).toNat).toNat) hFx (by decide) ((show Ax 23 (n).toNat = A 23 (n).toNat from (congrFun (hFx.2 23 rfl) _)).trans w4) (show Ax 24 (n).toNat = A 24 (n).toNat from (congrFun (hFx.2 24 rfl) _)) rfl (by omega) (by omega) iv_6 (lS_26 (show Ax 15 (n).toNat = A 15 (n).toNat from (congrFun (hFx.2 15 rfl) _)) (by omega) (LSq_end hFx (by decide) iv_14 (by omega)))), trivial⟩
    · have _q := h110
      obtain ⟨l1, m1, t1, hm1, hm2, hm3, ht1, ht2, ht3, hwP, hN1, hwC, hnx⟩ := LSq_hd iv_14 (by omega); have hwi := wP_in hwP; have sgF0 : Fr [59, 60] [9, 10, 25, 26, 27] Gx Ax Gx Ax := Fr_rf; have sgO0 : Fo [25, 26, 27] (gm) (m1) Ax Ax := Fo_rf; have sgN0 : Fo [9, 10] (gt) (t1) Ax Ax := Fo_rf
      refine jx_ld (pc_q := 269) (l_q := L) (st_q := [.int (i32 (deep))]) rfl (jl_iload gL_4) ?_
      refine jx_ld (pc_q := 270) (l_q := L) (st_q := [.ref 66, .int (i32 (deep))]) rfl (jl_aloadn gL_0) ?_
      refine jx_ld (pc_q := 272) (l_q := L) (st_q := [.int (i32 (c)), .ref 66, .int (i32 (deep))]) rfl (jl_iload gL_5) ?_
      refine jx_ld (pc_q := 273) (l_q := L) (st_q := [.int (i32 (free)), .int (i32 (c)), .ref 66, .int (i32 (deep))]) rfl (jl_iloadn gL_3) ?_
      refine jx_vr (pc_q := 276) (as := [.int (i32 (c)), .int (i32 (free))]) (st := [.int (i32 (deep))]) rfl rfl rfl rfl ⟨rfl, rfl, Nat.le_of_ble_eq_true rfl⟩ rfl rfl (hM (dd := d) (hd := by omega) (hW := hWx) (n := c) (fr := free) (lo := gm) (hi := m1) (s0 := gt) (s1 := t1) (mo := mo1) (e_mo := show Gx 59 = mo1 from (ex_mo1)) (lv := lv) (e_lv := show Gx 60 = lv from (fx_60))  (h_n := ⟨(Int.le_trans (by decide : (-2147483648 : Int) ≤ -2147483648) rx_c.1), (Int.le_trans rx_c.2 (by decide : (2147483647 : Int) ≤ 2147483647))⟩) (h_fr := ⟨(Int.le_trans (by decide : (-2147483648 : Int) ≤ -2147483648) rx_free.1), (Int.le_trans rx_free.2 (by decide : (2147483647 : Int) ≤ 2147483647))⟩)  (p_0 := by omega) (p_1 := by omega) (p_2 := by omega) (p_3 := by omega) (p_4 := by omega) (p_5 := by omega) (p_6 := by omega) (p_7 := by omega) (p_8 := (PS_fr hFx (by decide) p_8)) (p_9 := by omega) (p_10 := by omega) (p_11 := by omega) (p_12 := (wP_fr hFx (by decide) (by omega) (by omega) hwP)) (p_13 := by omega)) (fun o V_q hq => ?_)
      obtain ⟨G111, A112, r113, mo2_114, lv2_115, rfl, rfl, hW116, hF117, hQ118, hQ119, b120, e121, e122, p123, p124, p125, p126, p127, p128, -⟩ := hq
      have hF130 := Fr_tr hFx hF117 (Fr_sub (by decide)) (Fr_sub (by decide))
      have hO131 := Fo_tr hOx hQ118 (by omega) (by omega)
      have hN132 := Fo_tr hNx hQ119 (by omega) (by omega)
      have sgO133 := Fo_tr sgO0 hQ118 (by omega) (by omega)
      have sgN134 := Fo_tr sgN0 hQ119 (by omega) (by omega)
      have sgF135 := Fr_tr sgF0 hF117 (Fr_sub (by decide)) (Fr_sub (by decide))
      have sf136 : lD A112 (s0) ((A 24 (n).toNat).toNat) (fr) (lv) := lD_fo hF117 (by decide) hQ119 (by omega) (by omega) iv_6
      have bmo2_114 : (-2147483648 : Int) ≤ mo2_114 ∧ mo2_114 ≤ 2147483647 := e121 ▸ hW116.1 59
      have blv2_115 : (-2147483648 : Int) ≤ lv2_115 ∧ lv2_115 ≤ 2147483647 := e122 ▸ hW116.1 60
      refine .inr ⟨_, rfl, ?_⟩
      refine jx_st (pc_q := 279) (as := [.int (i32 (deep)), .int (i32 (r113))]) (st := []) rfl rfl ⟨rfl, Nat.le_of_ble_eq_true rfl⟩ rfl rfl rfl (c_max (dd := d) (hd := by omega) (a := deep) (b := r113)   (h_a := ⟨(Int.le_trans (by decide : (-2147483648 : Int) ≤ -2147483648) rx_deep.1), (Int.le_trans rx_deep.2 (by decide : (2147483647 : Int) ≤ 2147483647))⟩) (h_b := ⟨(Int.le_trans (by decide : (-2147483648 : Int) ≤ -2147483648) b120.1), (Int.le_trans b120.2 (by decide : (2147483647 : Int) ≤ 2147483647))⟩)  ) (fun o V_q hq => ?_)
      obtain ⟨r137, rfl, rfl, b138, q139⟩ := hq
      refine .inr ⟨_, rfl, ?_⟩
      rcases q139 with ⟨a140, a141⟩ | ⟨a142, a143⟩
      · have _q : True := trivial
        refine jx_ld (pc_q := 281) (l_q := jSto1 L 4 (.int (i32 (r137)))) (st_q := []) rfl rfl ?_
        obtain ⟨L144, eL144⟩ : ∃ q, q = jSto1 L 4 (.int (i32 (r137))) := ⟨_, rfl⟩
        rw [← eL144]
        have gL144_0 : jGet L144 0 = some (.ref 66) := eL144 ▸ jg_ne (by decide) gL_0 rfl
        have gL144_1 : jGet L144 1 = some (.int (i32 (n))) := eL144 ▸ jg_ne (by decide) gL_1 rfl
        have gL144_2 : jGet L144 2 = some (.int (i32 (fr))) := eL144 ▸ jg_ne (by decide) gL_2 rfl
        have gL144_3 : jGet L144 3 = some (.int (i32 (free))) := eL144 ▸ jg_ne (by decide) gL_3 rfl
        have gL144_5 : jGet L144 5 = some (.int (i32 (c))) := eL144 ▸ jg_ne (by decide) gL_5 rfl
        have gL144_4 : jGet L144 4 = some (.int (i32 (r137))) := eL144 ▸ jg_eq
        refine jx_ld (pc_q := 282) (l_q := L144) (st_q := [.ref 66]) rfl (jl_aloadn gL144_0) ?_
        refine jr_get (pc_q := 285) (i := 39) (v := .ref 89) rfl rfl (by decide) rfl rfl ?_
        refine jx_ld (pc_q := 287) (l_q := L144) (st_q := [.int (i32 (c)), .ref 89]) rfl (jl_iload gL144_5) ?_
        have b145 : (-2147483648 : Int) ≤ A 22 (c).toNat ∧ A 22 (c).toNat ≤ 2147483647 := hW.2 22 _
        refine jr_ldv (pc_q := 288) (i := 22) (m := 7000) (z := c) (y := A 22 (c).toNat) rfl (by decide) rfl (by decide) (by omega) (by omega) rfl (show A112 22 (c).toNat = A 22 (c).toNat from (congrFun ((hF117.2 22 rfl).trans (hFx.2 22 rfl)) _)) ?_
        refine jx_ld (pc_q := 290) (l_q := jSto1 L144 5 (.int (i32 (A 22 (c).toNat)))) (st_q := []) rfl rfl ?_
        obtain ⟨L146, eL146⟩ : ∃ q, q = jSto1 L144 5 (.int (i32 (A 22 (c).toNat))) := ⟨_, rfl⟩
        rw [← eL146]
        have gL146_0 : jGet L146 0 = some (.ref 66) := eL146 ▸ jg_ne (by decide) gL144_0 rfl
        have gL146_1 : jGet L146 1 = some (.int (i32 (n))) := eL146 ▸ jg_ne (by decide) gL144_1 rfl
        have gL146_2 : jGet L146 2 = some (.int (i32 (fr))) := eL146 ▸ jg_ne (by decide) gL144_2 rfl
        have gL146_3 : jGet L146 3 = some (.int (i32 (free))) := eL146 ▸ jg_ne (by decide) gL144_3 rfl
        have gL146_4 : jGet L146 4 = some (.int (i32 (r137))) := eL146 ▸ jg_ne (by decide) gL144_4 rfl
        have gL146_5 : jGet L146 5 = some (.int (i32 (A 22 (c).toNat))) := eL146 ▸ jg_eq
        refine jx_go (tg := 262) rfl rfl ?_
        exact ih262 _ (by omega) L146 G111 A112 (free) (r137) (A 22 (c).toNat) (mo2_114) (m1) (t1) rfl gL146_0 gL146_1 gL146_2 gL146_3 gL146_4 gL146_5 hW116 hF130 hO131 hN132 ((e121)) (Eq.trans (show G111 60 = lv2_115 from (e122)) (by omega)) (by omega) (by omega) (by omega) (by omega) (by omega) (by omega) (by omega) (by omega) (by omega) (sf136) (by omega) (by omega) (by omega) (by omega) (by omega) (by omega) (by omega) ((hnx _ _ _ (LSq_nx hFx (by decide) sgF135 (by decide) sgO133 sgN134 (by omega) (by omega) hwC hN1 p128 (by omega) (by omega) (by omega))))
      · have _q : True := trivial
        refine jx_ld (pc_q := 281) (l_q := jSto1 L 4 (.int (i32 (r137)))) (st_q := []) rfl rfl ?_
        obtain ⟨L147, eL147⟩ : ∃ q, q = jSto1 L 4 (.int (i32 (r137))) := ⟨_, rfl⟩
        rw [← eL147]
        have gL147_0 : jGet L147 0 = some (.ref 66) := eL147 ▸ jg_ne (by decide) gL_0 rfl
        have gL147_1 : jGet L147 1 = some (.int (i32 (n))) := eL147 ▸ jg_ne (by decide) gL_1 rfl
        have gL147_2 : jGet L147 2 = some (.int (i32 (fr))) := eL147 ▸ jg_ne (by decide) gL_2 rfl
        have gL147_3 : jGet L147 3 = some (.int (i32 (free))) := eL147 ▸ jg_ne (by decide) gL_3 rfl
        have gL147_5 : jGet L147 5 = some (.int (i32 (c))) := eL147 ▸ jg_ne (by decide) gL_5 rfl
        have gL147_4 : jGet L147 4 = some (.int (i32 (r137))) := eL147 ▸ jg_eq
        refine jx_ld (pc_q := 282) (l_q := L147) (st_q := [.ref 66]) rfl (jl_aloadn gL147_0) ?_
        refine jr_get (pc_q := 285) (i := 39) (v := .ref 89) rfl rfl (by decide) rfl rfl ?_
        refine jx_ld (pc_q := 287) (l_q := L147) (st_q := [.int (i32 (c)), .ref 89]) rfl (jl_iload gL147_5) ?_
        have b148 : (-2147483648 : Int) ≤ A 22 (c).toNat ∧ A 22 (c).toNat ≤ 2147483647 := hW.2 22 _
        refine jr_ldv (pc_q := 288) (i := 22) (m := 7000) (z := c) (y := A 22 (c).toNat) rfl (by decide) rfl (by decide) (by omega) (by omega) rfl (show A112 22 (c).toNat = A 22 (c).toNat from (congrFun ((hF117.2 22 rfl).trans (hFx.2 22 rfl)) _)) ?_
        refine jx_ld (pc_q := 290) (l_q := jSto1 L147 5 (.int (i32 (A 22 (c).toNat)))) (st_q := []) rfl rfl ?_
        obtain ⟨L149, eL149⟩ : ∃ q, q = jSto1 L147 5 (.int (i32 (A 22 (c).toNat))) := ⟨_, rfl⟩
        rw [← eL149]
        have gL149_0 : jGet L149 0 = some (.ref 66) := eL149 ▸ jg_ne (by decide) gL147_0 rfl
        have gL149_1 : jGet L149 1 = some (.int (i32 (n))) := eL149 ▸ jg_ne (by decide) gL147_1 rfl
        have gL149_2 : jGet L149 2 = some (.int (i32 (fr))) := eL149 ▸ jg_ne (by decide) gL147_2 rfl
        have gL149_3 : jGet L149 3 = some (.int (i32 (free))) := eL149 ▸ jg_ne (by decide) gL147_3 rfl
        have gL149_4 : jGet L149 4 = some (.int (i32 (r137))) := eL149 ▸ jg_ne (by decide) gL147_4 rfl
        have gL149_5 : jGet L149 5 = some (.int (i32 (A 22 (c).toNat))) := eL149 ▸ jg_eq
        refine jx_go (tg := 262) rfl rfl ?_
        exact ih262 _ (by omega) L149 G111 A112 (free) (r137) (A 22 (c).toNat) (mo2_114) (m1) (t1) rfl gL149_0 gL149_1 gL149_2 gL149_3 gL149_4 gL149_5 hW116 hF130 hO131 hN132 ((e121)) (Eq.trans (show G111 60 = lv2_115 from (e122)) (by omega)) (by omega) (by omega) (by omega) (by omega) (by omega) (by omega) (by omega) (by omega) (by omega) (sf136) (by omega) (by omega) (by omega) (by omega) (by omega) (by omega) (by omega) ((hnx _ _ _ (LSq_nx hFx (by decide) sgF135 (by decide) sgO133 sgN134 (by omega) (by omega) hwC hN1 p128 (by omega) (by omega) (by omega))))
set_option maxRecDepth 20000 in
set_option maxHeartbeats 4000000 in
theorem c_measure_s_at_192 {X : jX} {k : Nat} (hM : MM X k) {d : Nat} {Vs : Nat → Prop} {sb pb : Int} {c0 c1 : jC} {G : Nat → Int} {A : Nat → Nat → Int} {T : jH} {n fr : Int} {lo hi s0 s1 : Int} {mo lv : Int} (hd : 2 * (k + 1) + 30 ≤ d + 1) (hW : Wk G A) (e_mo : G 59 = mo) (e_lv : G 60 = lv) (h_n : (-2147483648 : Int) ≤ n ∧ n ≤ 2147483647) (h_fr : (-2147483648 : Int) ≤ fr ∧ fr ≤ 2147483647) (p_0 : 0 ≤ lo) (p_1 : hi ≤ 6999) (p_2 : 0 ≤ s0) (p_3 : s1 ≤ sb) (p_4 : sb ≤ 202) (p_5 : 0 ≤ lv) (p_6 : lv + ((k + 1 : Nat) : Int) ≤ 60) (p_7 : mo ≤ 1000000) (p_8 : PS A (pb)) (p_9 : 1 ≤ fr) (p_10 : fr ≤ 70 + 64 * s0 + 20 * lo) (p_11 : fr ≤ mo) (p_12 : wP A sb pb (k + 1) (Vs) (n) (lo) (hi) (s0) (s1)) (p_13 : pb ≤ 24) : ∀ (m : Nat) (L : jL) (Gx : Nat → Int) (Ax : Nat → Nat → Int) (free c mo1 gm : Int), (hi - gm).toNat = m → jGet L 0 = some (.ref 66) → jGet L 1 = some (.int (i32 (n))) → jGet L 2 = some (.int (i32 (fr))) → jGet L 3 = some (.int (i32 free)) → jGet L 5 = some (.int (i32 c)) → Wk Gx Ax → Fr [59, 60] [9, 10, 25, 26, 27] G A Gx Ax → Fo [25, 26, 27] (lo) (hi) A Ax → Fo [9, 10] (s0) (s1) A Ax → Gx 59 = mo1 → Gx 60 = lv → ((-2147483648 : Int) ≤ free ∧ free ≤ 2147483647) → ((-2147483648 : Int) ≤ c ∧ c ≤ 2147483647) → (mo ≤ mo1) → (mo1 ≤ 1000000) → (free = fr + zS A s0 (A 24 (n).toNat).toNat) → (1 ≤ free) → (free ≤ mo1) → (free ≤ 70 + 64 * (s0 + A 24 (n).toNat) + 20 * lo) → (lD Ax (s0) ((A 24 (n).toNat).toNat) (fr) (lv)) → (A 15 (n).toNat = 25) → (0 ≤ A 17 (n).toNat) → (A 17 (n).toNat < pb) → (n + 1 ≤ gm) → (gm ≤ hi) → (LA A Ax ((Vd Vs s0 (s0 + A 24 (n).toNat))) sb (n) (c) (n + 1) (hi) (free) (mo1) (gm)) → wj X d jm320 (192, L, [], rV c0 c1 Gx Ax T) (fun o V_q => ∃ (G_q : Nat → Int) (A_q : Nat → Nat → Int) (r : Int) (mo2 : Int) (lv2 : Int), V_q = rV c0 c1 G_q A_q T ∧ o = .inl (some (.int (i32 r))) ∧ Wk G_q A_q ∧ Fr [59, 60] [9, 10, 25, 26, 27] G A G_q A_q ∧ Fo [25, 26, 27] (lo) (hi) A A_q ∧ Fo [9, 10] (s0) (s1) A A_q ∧ ((-2147483648 : Int) ≤ r ∧ r ≤ 2147483647) ∧ G_q 59 = mo2 ∧ G_q 60 = lv2 ∧ (mo ≤ mo2) ∧ (mo2 ≤ 1000000) ∧ (lv2 = lv) ∧ (0 ≤ r) ∧ (r ≤ 1000000) ∧ (lP A_q (k + 1) (n) (fr) (lv) (mo2) (r)) ∧ True) := by
  have hF0 : Fr [59, 60] [9, 10, 25, 26, 27] G A G A := Fr_rf
  have hO0 : Fo [25, 26, 27] (lo) (hi) A A := Fo_rf
  have hN0 : Fo [9, 10] (s0) (s1) A A := Fo_rf
  have b_mo : (-2147483648 : Int) ≤ mo ∧ mo ≤ 2147483647 := e_mo ▸ hW.1 59
  have b_lv : (-2147483648 : Int) ≤ lv ∧ lv ≤ 2147483647 := e_lv ▸ hW.1 60
  have hp12 := p_12
  unfold wP at hp12
  obtain ⟨w1, w2, w3, w4, w5, w6, w7, w8⟩ := hp12
  intro m
  induction m using Nat.strongRecOn with
  | ind m ih192 =>
    intro L Gx Ax free c mo1 gm hm gL_0 gL_1 gL_2 gL_3 gL_5 hWx hFx hOx hNx ex_mo1 fx_60 rx_free rx_c iv_0 iv_1 iv_2 iv_3 iv_4 iv_5 iv_6 iv_7 iv_8 iv_9 iv_10 iv_11 iv_12
    have b_mo1 : (-2147483648 : Int) ≤ mo1 ∧ mo1 ≤ 2147483647 := ex_mo1 ▸ hWx.1 59
    have _q : True := trivial
    refine jx_ld (pc_q := 194) (l_q := L) (st_q := [.int (i32 (c))]) rfl (jl_iload gL_5) ?_
    refine jx_if_le (pc_q := 197) (tg := 221) rfl rfl rfl (Int.le_trans (by decide : (-2147483648 : Int) ≤ -2147483648) rx_c.1) (Int.le_trans rx_c.2 (by decide : (2147483647 : Int) ≤ 2147483647)) (fun h150 => ?_) (fun h150 => ?_)
    · have _q := h150
      have hpq := p_8 (A 17 (n).toNat) (by omega) (by omega)
      refine jx_hp (pc_q := 224) (st_q := [.long (i64 (7))]) rfl rfl rfl rfl rfl rfl ?_
      refine jx_ld (pc_q := 225) (l_q := L) (st_q := [.ref 66, .long (i64 (7))]) rfl (jl_aloadn gL_0) ?_
      refine jr_get (pc_q := 228) (i := 50) (v := .ref 99) rfl rfl (by decide) rfl rfl ?_
      refine jx_ld (pc_q := 229) (l_q := L) (st_q := [.ref 66, .ref 99, .long (i64 (7))]) rfl (jl_aloadn gL_0) ?_
      refine jr_get (pc_q := 232) (i := 34) (v := .ref 84) rfl rfl (by decide) rfl rfl ?_
      refine jx_ld (pc_q := 233) (l_q := L) (st_q := [.int (i32 (n)), .ref 84, .ref 99, .long (i64 (7))]) rfl (jl_iloadn gL_1) ?_
      have b151 : (-2147483648 : Int) ≤ A 17 (n).toNat ∧ A 17 (n).toNat ≤ 2147483647 := hW.2 17 _
      refine jr_ldv (pc_q := 234) (i := 17) (m := 7000) (z := n) (y := A 17 (n).toNat) rfl (by decide) rfl (by decide) (by omega) (by omega) rfl (show Ax 17 (n).toNat = A 17 (n).toNat from (congrFun (hFx.2 17 rfl) _)) ?_
      have b152 : (-2147483648 : Int) ≤ A 32 (A 17 (n).toNat).toNat ∧ A 32 (A 17 (n).toNat).toNat ≤ 2147483647 := hW.2 32 _
      refine jr_ldv (pc_q := 235) (i := 32) (m := 25) (z := A 17 (n).toNat) (y := A 32 (A 17 (n).toNat).toNat) rfl (by decide) rfl (by decide) (by omega) (by omega) rfl (show Ax 32 (A 17 (n).toNat).toNat = A 32 (A 17 (n).toNat).toNat from (congrFun (hFx.2 32 rfl) _)) ?_
      refine jx_i2n (pc_q := 236) rfl rfl (Int.le_trans (by decide : (-2147483648 : Int) ≤ -2147483648) b152.1) (Int.le_trans b152.2 (by decide : (2147483647 : Int) ≤ 2147483647)) ?_
      refine jx_nadd (pc_q := 237) rfl rfl ?_
      refine jx_ld (pc_q := 238) (l_q := L) (st_q := [.ref 66, .long (i64 ((7 + A 32 (A 17 (n).toNat).toNat)))]) rfl (jl_aloadn gL_0) ?_
      refine jr_get (pc_q := 241) (i := 51) (v := .ref 100) rfl rfl (by decide) rfl rfl ?_
      refine jx_ld (pc_q := 242) (l_q := L) (st_q := [.ref 66, .ref 100, .long (i64 ((7 + A 32 (A 17 (n).toNat).toNat)))]) rfl (jl_aloadn gL_0) ?_
      refine jr_get (pc_q := 245) (i := 34) (v := .ref 84) rfl rfl (by decide) rfl rfl ?_
      refine jx_ld (pc_q := 246) (l_q := L) (st_q := [.int (i32 (n)), .ref 84, .ref 100, .long (i64 ((7 + A 32 (A 17 (n).toNat).toNat)))]) rfl (jl_iloadn gL_1) ?_
      refine jr_ldv (pc_q := 247) (i := 17) (m := 7000) (z := n) (y := A 17 (n).toNat) rfl (by decide) rfl (by decide) (by omega) (by omega) rfl (show Ax 17 (n).toNat = A 17 (n).toNat from (congrFun (hFx.2 17 rfl) _)) ?_
      have b153 : (-2147483648 : Int) ≤ A 33 (A 17 (n).toNat).toNat ∧ A 33 (A 17 (n).toNat).toNat ≤ 2147483647 := hW.2 33 _
      refine jr_ldv (pc_q := 248) (i := 33) (m := 25) (z := A 17 (n).toNat) (y := A 33 (A 17 (n).toNat).toNat) rfl (by decide) rfl (by decide) (by omega) (by omega) rfl (show Ax 33 (A 17 (n).toNat).toNat = A 33 (A 17 (n).toNat).toNat from (congrFun (hFx.2 33 rfl) _)) ?_
      refine jx_i2n (pc_q := 249) rfl rfl (Int.le_trans (by decide : (-2147483648 : Int) ≤ -2147483648) b153.1) (Int.le_trans b153.2 (by decide : (2147483647 : Int) ≤ 2147483647)) ?_
      refine jx_nadd (pc_q := 250) rfl rfl ?_
      refine jx_st (pc_q := 253) (as := [.long (i64 (((7 + A 32 (A 17 (n).toNat).toNat) + A 33 (A 17 (n).toNat).toNat)))]) (st := []) rfl rfl ⟨rfl, Nat.le_of_ble_eq_true rfl⟩ rfl rfl rfl (c_capped (dd := d) (hd := by omega) (v := ((7 + A 32 (A 17 (n).toNat).toNat) + A 33 (A 17 (n).toNat).toNat))   (h_v := ⟨(by omega), (by omega)⟩)  (p_0 := by omega)) (fun o V_q hq => ?_)
      obtain ⟨r154, rfl, rfl, b155, q156⟩ := hq
      refine .inr ⟨_, rfl, ?_⟩
      rcases q156 with ⟨a157, a158⟩ | ⟨a159, a160⟩
      · have _q : True := trivial
        refine jx_rt (v := some (.int (i32 (r154)))) rfl rfl rfl rfl rfl rfl ?_
        exact ⟨_, _, _, mo1, lv, rfl, rfl, hWx, hFx, hOx, hNx, by omega, (ex_mo1), (fx_60), by omega, by omega, by omega, by omega, by omega, (lP_mk (m := (A 24 (n).toNat).toNat) hFx (by decide) ((show Ax 23 (n).toNat = A 23 (n).toNat from (congrFun (hFx.2 23 rfl) _)).trans w4) (show Ax 24 (n).toNat = A 24 (n).toNat from (congrFun (hFx.2 24 rfl) _)) rfl (by omega) (by omega) iv_6 (lS_25 (show Ax 15 (n).toNat = A 15 (n).toNat from (congrFun (hFx.2 15 rfl) _)) (by omega) ⟨LA_end hFx (by decide) iv_12 (by omega), fun hD => by rw [(show Ax 17 (n).toNat = A 17 (n).toNat from (congrFun (hFx.2 17 rfl) _))]; rw [(show Ax 32 (A 17 (n).toNat).toNat = A 32 (A 17 (n).toNat).toNat from (congrFun (hFx.2 32 rfl) _)), (show Ax 33 (A 17 (n).toNat).toNat = A 33 (A 17 (n).toNat).toNat from (congrFun (hFx.2 33 rfl) _))]; omega⟩)), trivial⟩
      · have _q : True := trivial
        refine jx_rt (v := some (.int (i32 (r154)))) rfl rfl rfl rfl rfl rfl ?_
        exact ⟨_, _, _, mo1, lv, rfl, rfl, hWx, hFx, hOx, hNx, by omega, (ex_mo1), (fx_60), by omega, by omega, by omega, by omega, by omega, (lP_mk (m := (A 24 (n).toNat).toNat) hFx (by decide) ((show Ax 23 (n).toNat = A 23 (n).toNat from (congrFun (hFx.2 23 rfl) _)).trans w4) (show Ax 24 (n).toNat = A 24 (n).toNat from (congrFun (hFx.2 24 rfl) _)) rfl (by omega) (by omega) iv_6 (lS_25 (show Ax 15 (n).toNat = A 15 (n).toNat from (congrFun (hFx.2 15 rfl) _)) (by omega) ⟨LA_end hFx (by decide) iv_12 (by omega), fun hD => by rw [(show Ax 17 (n).toNat = A 17 (n).toNat from (congrFun (hFx.2 17 rfl) _))]; rw [(show Ax 32 (A 17 (n).toNat).toNat = A 32 (A 17 (n).toNat).toNat from (congrFun (hFx.2 32 rfl) _)), (show Ax 33 (A 17 (n).toNat).toNat = A 33 (A 17 (n).toNat).toNat from (congrFun (hFx.2 33 rfl) _))]; omega⟩)), trivial⟩
    · have _q := h150
      obtain ⟨l1, m1, pa, hm1, hm2, hm3, hwA, hN1, hnx⟩ := LA_hd iv_12 (by omega); have hwi := wA_in hwA; have sgF0 : Fr [59, 60] [9, 10, 25, 26, 27] Gx Ax Gx Ax := Fr_rf; have sgO0 : Fo [25, 26, 27] (gm) (m1) Ax Ax := Fo_rf; have sgN0 : Fo [9, 10] (0) (0) Ax Ax := Fo_rf
      rcases wA_xe hwA with hxe | hxe
      · have _q : True := trivial
        refine jx_ld (pc_q := 198) (l_q := L) (st_q := [.ref 66]) rfl (jl_aloadn gL_0) ?_
        refine jx_ld (pc_q := 199) (l_q := L) (st_q := [.ref 66, .ref 66]) rfl (jl_aloadn gL_0) ?_
        refine jr_get (pc_q := 202) (i := 34) (v := .ref 84) rfl rfl (by decide) rfl rfl ?_
        refine jx_ld (pc_q := 204) (l_q := L) (st_q := [.int (i32 (c)), .ref 84, .ref 66]) rfl (jl_iload gL_5) ?_
        have b161 : (-2147483648 : Int) ≤ A 17 (c).toNat ∧ A 17 (c).toNat ≤ 2147483647 := hW.2 17 _
        refine jr_ldv (pc_q := 205) (i := 17) (m := 7000) (z := c) (y := A 17 (c).toNat) rfl (by decide) rfl (by decide) (by omega) (by omega) rfl (show Ax 17 (c).toNat = A 17 (c).toNat from (congrFun (hFx.2 17 rfl) _)) ?_
        refine jx_ld (pc_q := 206) (l_q := L) (st_q := [.int (i32 (free)), .int (i32 (A 17 (c).toNat)), .ref 66]) rfl (jl_iloadn gL_3) ?_
        refine jx_vr (pc_q := 209) (as := [.int (i32 (A 17 (c).toNat)), .int (i32 (free))]) (st := []) rfl rfl rfl rfl ⟨rfl, rfl, Nat.le_of_ble_eq_true rfl⟩ rfl rfl (ME_all X 22 (dd := d) (hd := by omega) (hW := hWx) (e := A 17 (c).toNat) (free := free) (lo := gm) (hi := c) (mo := mo1) (e_mo := show Gx 59 = mo1 from (ex_mo1))  (h_e := ⟨(Int.le_trans (by decide : (-2147483648 : Int) ≤ -2147483648) b161.1), (Int.le_trans b161.2 (by decide : (2147483647 : Int) ≤ 2147483647))⟩) (h_free := ⟨(Int.le_trans (by decide : (-2147483648 : Int) ≤ -2147483648) rx_free.1), (Int.le_trans rx_free.2 (by decide : (2147483647 : Int) ≤ 2147483647))⟩)  (p_0 := by omega) (p_1 := by omega) (p_2 := by omega) (p_3 := by omega) (p_4 := by omega) (p_5 := (wE_mono (by omega) (by omega) (by omega) (wE_fr hFx (by decide) (by decide) (by omega) hxe))) (p_6 := by omega)) (fun o V_q hq => ?_)
        obtain ⟨G162, A163, mo2_164, rfl, rfl, hW165, hF166, hQ167, e168, p169, p170, p171, -⟩ := hq
        have hF173 := Fr_tr hFx hF166 (Fr_sub (by decide)) (Fr_sub (by decide))
        have hO174 := Fo_tr hOx hQ167 (by omega) (by omega)
        have hN175 := Fo_f hNx hF166 (by decide)
        have sgO176 := Fo_tr sgO0 hQ167 (by omega) (by omega)
        have sgN177 := Fo_f sgN0 hF166 (by decide)
        have sgF178 := Fr_tr sgF0 hF166 (Fr_sub (by decide)) (Fr_sub (by decide))
        have sf179 : lD A163 (s0) ((A 24 (n).toNat).toNat) (fr) (lv) := lD_fo hF166 (by decide) (Fo_f (lo := 0) (hi := 0) Fo_rf hF166 (by decide)) (by omega) (by omega) iv_6
        have bmo2_164 : (-2147483648 : Int) ≤ mo2_164 ∧ mo2_164 ≤ 2147483647 := e168 ▸ hW165.1 59
        refine .inl ⟨rfl, ?_⟩
        refine jx_ld (pc_q := 210) (l_q := L) (st_q := [.ref 66]) rfl (jl_aloadn gL_0) ?_
        refine jr_get (pc_q := 213) (i := 39) (v := .ref 89) rfl rfl (by decide) rfl rfl ?_
        refine jx_ld (pc_q := 215) (l_q := L) (st_q := [.int (i32 (c)), .ref 89]) rfl (jl_iload gL_5) ?_
        have b180 : (-2147483648 : Int) ≤ A 22 (c).toNat ∧ A 22 (c).toNat ≤ 2147483647 := hW.2 22 _
        refine jr_ldv (pc_q := 216) (i := 22) (m := 7000) (z := c) (y := A 22 (c).toNat) rfl (by decide) rfl (by decide) (by omega) (by omega) rfl (show A163 22 (c).toNat = A 22 (c).toNat from (congrFun ((hF166.2 22 rfl).trans (hFx.2 22 rfl)) _)) ?_
        refine jx_ld (pc_q := 218) (l_q := jSto1 L 5 (.int (i32 (A 22 (c).toNat)))) (st_q := []) rfl rfl ?_
        obtain ⟨L181, eL181⟩ : ∃ q, q = jSto1 L 5 (.int (i32 (A 22 (c).toNat))) := ⟨_, rfl⟩
        rw [← eL181]
        have gL181_0 : jGet L181 0 = some (.ref 66) := eL181 ▸ jg_ne (by decide) gL_0 rfl
        have gL181_1 : jGet L181 1 = some (.int (i32 (n))) := eL181 ▸ jg_ne (by decide) gL_1 rfl
        have gL181_2 : jGet L181 2 = some (.int (i32 (fr))) := eL181 ▸ jg_ne (by decide) gL_2 rfl
        have gL181_3 : jGet L181 3 = some (.int (i32 (free))) := eL181 ▸ jg_ne (by decide) gL_3 rfl
        have gL181_5 : jGet L181 5 = some (.int (i32 (A 22 (c).toNat))) := eL181 ▸ jg_eq
        refine jx_go (tg := 192) rfl rfl ?_
        exact ih192 _ (by omega) L181 G162 A163 (free) (A 22 (c).toNat) (mo2_164) (m1) rfl gL181_0 gL181_1 gL181_2 gL181_3 gL181_5 hW165 hF173 hO174 hN175 ((e168)) (((hF166.1 60 rfl).trans (fx_60))) (by omega) (by omega) (by omega) (by omega) (by omega) (by omega) (by omega) (by omega) (sf179) (by omega) (by omega) (by omega) (by omega) (by omega) ((hnx _ _ (LA_nx hFx (by decide) sgF178 (by decide) sgO176 (by omega) (by omega) (by omega) hwA hN1 (lE_sz (by omega) (by omega) p171) (by omega))))
      · have _q : True := trivial
        refine jx_ld (pc_q := 198) (l_q := L) (st_q := [.ref 66]) rfl (jl_aloadn gL_0) ?_
        refine jx_ld (pc_q := 199) (l_q := L) (st_q := [.ref 66, .ref 66]) rfl (jl_aloadn gL_0) ?_
        refine jr_get (pc_q := 202) (i := 34) (v := .ref 84) rfl rfl (by decide) rfl rfl ?_
        refine jx_ld (pc_q := 204) (l_q := L) (st_q := [.int (i32 (c)), .ref 84, .ref 66]) rfl (jl_iload gL_5) ?_
        have b182 : (-2147483648 : Int) ≤ A 17 (c).toNat ∧ A 17 (c).toNat ≤ 2147483647 := hW.2 17 _
        refine jr_ldv (pc_q := 205) (i := 17) (m := 7000) (z := c) (y := A 17 (c).toNat) rfl (by decide) rfl (by decide) (by omega) (by omega) rfl (show Ax 17 (c).toNat = A 17 (c).toNat from (congrFun (hFx.2 17 rfl) _)) ?_
        refine jx_ld (pc_q := 206) (l_q := L) (st_q := [.int (i32 (free)), .int (i32 (A 17 (c).toNat)), .ref 66]) rfl (jl_iloadn gL_3) ?_
        refine jx_vr (pc_q := 209) (as := [.int (i32 (A 17 (c).toNat)), .int (i32 (free))]) (st := []) rfl rfl rfl rfl ⟨rfl, rfl, Nat.le_of_ble_eq_true rfl⟩ rfl rfl (c_measureE_x (dd := d) (hd := by omega) (hW := hWx) (e := A 17 (c).toNat) (free := free) (lo := gm) (hi := c) (mo := mo1) (e_mo := show Gx 59 = mo1 from (ex_mo1))  (h_e := ⟨(Int.le_trans (by decide : (-2147483648 : Int) ≤ -2147483648) b182.1), (Int.le_trans b182.2 (by decide : (2147483647 : Int) ≤ 2147483647))⟩) (h_free := ⟨(Int.le_trans (by decide : (-2147483648 : Int) ≤ -2147483648) rx_free.1), (Int.le_trans rx_free.2 (by decide : (2147483647 : Int) ≤ 2147483647))⟩)  (p_0 := by omega) (p_1 := by omega) (p_2 := by omega) (p_3 := by omega) (p_4 := by omega) (p_5 := (wX_fr hFx (by decide) (by decide) (by omega) hxe))) (fun o V_q hq => ?_)
        obtain ⟨G183, A184, mo2_185, rfl, rfl, hW186, hF187, hQ188, e189, p190, p191, p192, -⟩ := hq
        have hF194 := Fr_tr hFx hF187 (Fr_sub (by decide)) (Fr_sub (by decide))
        have hO195 := Fo_tr hOx hQ188 (by omega) (by omega)
        have hN196 := Fo_f hNx hF187 (by decide)
        have sgO197 := Fo_tr sgO0 hQ188 (by omega) (by omega)
        have sgN198 := Fo_f sgN0 hF187 (by decide)
        have sgF199 := Fr_tr sgF0 hF187 (Fr_sub (by decide)) (Fr_sub (by decide))
        have sf200 : lD A184 (s0) ((A 24 (n).toNat).toNat) (fr) (lv) := lD_fo hF187 (by decide) (Fo_f (lo := 0) (hi := 0) Fo_rf hF187 (by decide)) (by omega) (by omega) iv_6
        have bmo2_185 : (-2147483648 : Int) ≤ mo2_185 ∧ mo2_185 ≤ 2147483647 := e189 ▸ hW186.1 59
        refine .inl ⟨rfl, ?_⟩
        refine jx_ld (pc_q := 210) (l_q := L) (st_q := [.ref 66]) rfl (jl_aloadn gL_0) ?_
        refine jr_get (pc_q := 213) (i := 39) (v := .ref 89) rfl rfl (by decide) rfl rfl ?_
        refine jx_ld (pc_q := 215) (l_q := L) (st_q := [.int (i32 (c)), .ref 89]) rfl (jl_iload gL_5) ?_
        have b201 : (-2147483648 : Int) ≤ A 22 (c).toNat ∧ A 22 (c).toNat ≤ 2147483647 := hW.2 22 _
        refine jr_ldv (pc_q := 216) (i := 22) (m := 7000) (z := c) (y := A 22 (c).toNat) rfl (by decide) rfl (by decide) (by omega) (by omega) rfl (show A184 22 (c).toNat = A 22 (c).toNat from (congrFun ((hF187.2 22 rfl).trans (hFx.2 22 rfl)) _)) ?_
        refine jx_ld (pc_q := 218) (l_q := jSto1 L 5 (.int (i32 (A 22 (c).toNat)))) (st_q := []) rfl rfl ?_
        obtain ⟨L202, eL202⟩ : ∃ q, q = jSto1 L 5 (.int (i32 (A 22 (c).toNat))) := ⟨_, rfl⟩
        rw [← eL202]
        have gL202_0 : jGet L202 0 = some (.ref 66) := eL202 ▸ jg_ne (by decide) gL_0 rfl
        have gL202_1 : jGet L202 1 = some (.int (i32 (n))) := eL202 ▸ jg_ne (by decide) gL_1 rfl
        have gL202_2 : jGet L202 2 = some (.int (i32 (fr))) := eL202 ▸ jg_ne (by decide) gL_2 rfl
        have gL202_3 : jGet L202 3 = some (.int (i32 (free))) := eL202 ▸ jg_ne (by decide) gL_3 rfl
        have gL202_5 : jGet L202 5 = some (.int (i32 (A 22 (c).toNat))) := eL202 ▸ jg_eq
        refine jx_go (tg := 192) rfl rfl ?_
        exact ih192 _ (by omega) L202 G183 A184 (free) (A 22 (c).toNat) (mo2_185) (m1) rfl gL202_0 gL202_1 gL202_2 gL202_3 gL202_5 hW186 hF194 hO195 hN196 ((e189)) (((hF187.1 60 rfl).trans (fx_60))) (by omega) (by omega) (by omega) (by omega) (by omega) (by omega) (by omega) (by omega) (sf200) (by omega) (by omega) (by omega) (by omega) (by omega) ((hnx _ _ (LA_nx hFx (by decide) sgF199 (by decide) sgO197 (by omega) (by omega) (by omega) hwA hN1 (lE_sz (by omega) (by omega) p192) (by omega))))
set_option maxRecDepth 20000 in
set_option maxHeartbeats 4000000 in
theorem c_measure_s_at_68 {X : jX} {k : Nat} (hM : MM X k) {d : Nat} {Vs : Nat → Prop} {sb pb : Int} {c0 c1 : jC} {G : Nat → Int} {A : Nat → Nat → Int} {T : jH} {n fr : Int} {lo hi s0 s1 : Int} {mo lv : Int} (hd : 2 * (k + 1) + 30 ≤ d + 1) (hW : Wk G A) (e_mo : G 59 = mo) (e_lv : G 60 = lv) (h_n : (-2147483648 : Int) ≤ n ∧ n ≤ 2147483647) (h_fr : (-2147483648 : Int) ≤ fr ∧ fr ≤ 2147483647) (p_0 : 0 ≤ lo) (p_1 : hi ≤ 6999) (p_2 : 0 ≤ s0) (p_3 : s1 ≤ sb) (p_4 : sb ≤ 202) (p_5 : 0 ≤ lv) (p_6 : lv + ((k + 1 : Nat) : Int) ≤ 60) (p_7 : mo ≤ 1000000) (p_8 : PS A (pb)) (p_9 : 1 ≤ fr) (p_10 : fr ≤ 70 + 64 * s0 + 20 * lo) (p_11 : fr ≤ mo) (p_12 : wP A sb pb (k + 1) (Vs) (n) (lo) (hi) (s0) (s1)) (p_13 : pb ≤ 24) : ∀ (L : jL) (Gx : Nat → Int) (Ax : Nat → Nat → Int) (free mo1 : Int), jGet L 0 = some (.ref 66) → jGet L 1 = some (.int (i32 (n))) → jGet L 2 = some (.int (i32 (fr))) → jGet L 3 = some (.int (i32 free)) → Wk Gx Ax → Fr [59, 60] [9, 10, 25, 26, 27] G A Gx Ax → Fo [25, 26, 27] (lo) (hi) A Ax → Fo [9, 10] (s0) (s1) A Ax → Gx 59 = mo1 → Gx 60 = lv → ((-2147483648 : Int) ≤ free ∧ free ≤ 2147483647) → (mo ≤ mo1) → (mo1 ≤ 1000000) → (free = fr + zS A s0 (A 24 (n).toNat).toNat) → (1 ≤ free) → (free ≤ mo1) → (free ≤ 70 + 64 * (s0 + A 24 (n).toNat) + 20 * lo) → (lD Ax (s0) ((A 24 (n).toNat).toNat) (fr) (lv)) → wj X d jm320 (68, L, [], rV c0 c1 Gx Ax T) (fun o V_q => ∃ (G_q : Nat → Int) (A_q : Nat → Nat → Int) (r : Int) (mo2 : Int) (lv2 : Int), V_q = rV c0 c1 G_q A_q T ∧ o = .inl (some (.int (i32 r))) ∧ Wk G_q A_q ∧ Fr [59, 60] [9, 10, 25, 26, 27] G A G_q A_q ∧ Fo [25, 26, 27] (lo) (hi) A A_q ∧ Fo [9, 10] (s0) (s1) A A_q ∧ ((-2147483648 : Int) ≤ r ∧ r ≤ 2147483647) ∧ G_q 59 = mo2 ∧ G_q 60 = lv2 ∧ (mo ≤ mo2) ∧ (mo2 ≤ 1000000) ∧ (lv2 = lv) ∧ (0 ≤ r) ∧ (r ≤ 1000000) ∧ (lP A_q (k + 1) (n) (fr) (lv) (mo2) (r)) ∧ True) := by
  have hF0 : Fr [59, 60] [9, 10, 25, 26, 27] G A G A := Fr_rf
  have hO0 : Fo [25, 26, 27] (lo) (hi) A A := Fo_rf
  have hN0 : Fo [9, 10] (s0) (s1) A A := Fo_rf
  have b_mo : (-2147483648 : Int) ≤ mo ∧ mo ≤ 2147483647 := e_mo ▸ hW.1 59
  have b_lv : (-2147483648 : Int) ≤ lv ∧ lv ≤ 2147483647 := e_lv ▸ hW.1 60
  have hp12 := p_12
  unfold wP at hp12
  obtain ⟨w1, w2, w3, w4, w5, w6, w7, w8⟩ := hp12
  intro L Gx Ax free mo1 gL_0 gL_1 gL_2 gL_3 hWx hFx hOx hNx ex_mo1 fx_60 rx_free iv_0 iv_1 iv_2 iv_3 iv_4 iv_5 iv_6
  have b_mo1 : (-2147483648 : Int) ≤ mo1 ∧ mo1 ≤ 2147483647 := ex_mo1 ▸ hWx.1 59
  refine jx_ar (pc_q := 69) (st_q := [.int (i32 (0))]) rfl rfl rfl rfl ?_
  refine jx_ld (pc_q := 71) (l_q := jSto1 L 4 (.int (i32 (0)))) (st_q := []) rfl rfl ?_
  obtain ⟨L203, eL203⟩ : ∃ q, q = jSto1 L 4 (.int (i32 (0))) := ⟨_, rfl⟩
  rw [← eL203]
  have gL203_0 : jGet L203 0 = some (.ref 66) := eL203 ▸ jg_ne (by decide) gL_0 rfl
  have gL203_1 : jGet L203 1 = some (.int (i32 (n))) := eL203 ▸ jg_ne (by decide) gL_1 rfl
  have gL203_2 : jGet L203 2 = some (.int (i32 (fr))) := eL203 ▸ jg_ne (by decide) gL_2 rfl
  have gL203_3 : jGet L203 3 = some (.int (i32 (free))) := eL203 ▸ jg_ne (by decide) gL_3 rfl
  have gL203_4 : jGet L203 4 = some (.int (i32 (0))) := eL203 ▸ jg_eq
  refine jx_ld (pc_q := 72) (l_q := L203) (st_q := [.ref 66]) rfl (jl_aloadn gL203_0) ?_
  refine jr_get (pc_q := 75) (i := 32) (v := .ref 82) rfl rfl (by decide) rfl rfl ?_
  refine jx_ld (pc_q := 76) (l_q := L203) (st_q := [.int (i32 (n)), .ref 82]) rfl (jl_iloadn gL203_1) ?_
  have b204 : (0 : Int) ≤ A 15 (n).toNat ∧ A 15 (n).toNat ≤ 34 := hW.2 15 _
  refine jr_ldv (pc_q := 77) (i := 15) (m := 7000) (z := n) (y := A 15 (n).toNat) rfl (by decide) rfl (by decide) (by omega) (by omega) rfl (show Ax 15 (n).toNat = A 15 (n).toNat from (congrFun (hFx.2 15 rfl) _)) ?_
  rcases (by omega : A 15 (n).toNat = 22 ∨ A 15 (n).toNat = 23 ∨ A 15 (n).toNat = 24 ∨ A 15 (n).toNat = 25 ∨ A 15 (n).toNat = 26 ∨ A 15 (n).toNat = 27 ∨ A 15 (n).toNat = 28 ∨ A 15 (n).toNat = 29 ∨ A 15 (n).toNat = 30 ∨ A 15 (n).toNat = 31 ∨ A 15 (n).toNat = 32 ∨ (A 15 (n).toNat < 22 ∨ 32 < A 15 (n).toNat)) with h205 | h205 | h205 | h205 | h205 | h205 | h205 | h205 | h205 | h205 | h205 | h205
  · refine jx_swe (z := 22) (tg := 136) h205 rfl rfl rfl rfl ?_
    obtain ⟨ch6, hq1, hq2⟩ := wS_i223 w8 (by omega)
    refine jx_ld (pc_q := 137) (l_q := L203) (st_q := [.ref 66]) rfl (jl_aloadn gL203_0) ?_
    refine jx_ld (pc_q := 138) (l_q := L203) (st_q := [.ref 66, .ref 66]) rfl (jl_aloadn gL203_0) ?_
    refine jr_get (pc_q := 141) (i := 34) (v := .ref 84) rfl rfl (by decide) rfl rfl ?_
    refine jx_ld (pc_q := 142) (l_q := L203) (st_q := [.int (i32 (n)), .ref 84, .ref 66]) rfl (jl_iloadn gL203_1) ?_
    have b206 : (-2147483648 : Int) ≤ A 17 (n).toNat ∧ A 17 (n).toNat ≤ 2147483647 := hW.2 17 _
    refine jr_ldv (pc_q := 143) (i := 17) (m := 7000) (z := n) (y := A 17 (n).toNat) rfl (by decide) rfl (by decide) (by omega) (by omega) rfl (show Ax 17 (n).toNat = A 17 (n).toNat from (congrFun (hFx.2 17 rfl) _)) ?_
    refine jx_ld (pc_q := 144) (l_q := L203) (st_q := [.int (i32 (free)), .int (i32 (A 17 (n).toNat)), .ref 66]) rfl (jl_iloadn gL203_3) ?_
    refine jx_vr (pc_q := 147) (as := [.int (i32 (A 17 (n).toNat)), .int (i32 (free))]) (st := []) rfl rfl rfl rfl ⟨rfl, rfl, Nat.le_of_ble_eq_true rfl⟩ rfl rfl (c_measureReference (dd := d) (hd := by omega) (hW := hWx) (x := A 17 (n).toNat) (free := free) (lo := lo) (hi := n) (mo := mo1) (e_mo := show Gx 59 = mo1 from (ex_mo1))  (h_x := ⟨(Int.le_trans (by decide : (-2147483648 : Int) ≤ -2147483648) b206.1), (Int.le_trans b206.2 (by decide : (2147483647 : Int) ≤ 2147483647))⟩) (h_free := ⟨(Int.le_trans (by decide : (-2147483648 : Int) ≤ -2147483648) rx_free.1), (Int.le_trans rx_free.2 (by decide : (2147483647 : Int) ≤ 2147483647))⟩)  (p_0 := by omega) (p_1 := by omega) (p_2 := by omega) (p_3 := by omega) (p_4 := by omega) (p_5 := (wR_mono (by omega) (by omega) (by omega) (wR_fr hFx (by decide) (by decide) (by omega) hq1)))) (fun o V_q hq => ?_)
    obtain ⟨G207, A208, mo2_209, rfl, rfl, hW210, hF211, hQ212, e213, p214, p215, p216, -⟩ := hq
    have hF218 := Fr_tr hFx hF211 (Fr_sub (by decide)) (Fr_sub (by decide))
    have hO219 := Fo_tr hOx hQ212 (by omega) (by omega)
    have hN220 := Fo_f hNx hF211 (by decide)
    have sf221 : lD A208 (s0) ((A 24 (n).toNat).toNat) (fr) (lv) := lD_fo hF211 (by decide) (Fo_f (lo := 0) (hi := 0) Fo_rf hF211 (by decide)) (by omega) (by omega) iv_6
    have bmo2_209 : (-2147483648 : Int) ≤ mo2_209 ∧ mo2_209 ≤ 2147483647 := e213 ▸ hW210.1 59
    refine .inl ⟨rfl, ?_⟩
    refine jx_ld (pc_q := 148) (l_q := L203) (st_q := [.ref 66]) rfl (jl_aloadn gL203_0) ?_
    refine jx_ld (pc_q := 149) (l_q := L203) (st_q := [.ref 66, .ref 66]) rfl (jl_aloadn gL203_0) ?_
    refine jr_get (pc_q := 152) (i := 35) (v := .ref 85) rfl rfl (by decide) rfl rfl ?_
    refine jx_ld (pc_q := 153) (l_q := L203) (st_q := [.int (i32 (n)), .ref 85, .ref 66]) rfl (jl_iloadn gL203_1) ?_
    have b222 : (-2147483648 : Int) ≤ A 18 (n).toNat ∧ A 18 (n).toNat ≤ 2147483647 := hW.2 18 _
    refine jr_ldv (pc_q := 154) (i := 18) (m := 7000) (z := n) (y := A 18 (n).toNat) rfl (by decide) rfl (by decide) (by omega) (by omega) rfl (show A208 18 (n).toNat = A 18 (n).toNat from (congrFun ((hF211.2 18 rfl).trans (hFx.2 18 rfl)) _)) ?_
    refine jx_ld (pc_q := 155) (l_q := L203) (st_q := [.int (i32 (free)), .int (i32 (A 18 (n).toNat)), .ref 66]) rfl (jl_iloadn gL203_3) ?_
    refine jx_vr (pc_q := 158) (as := [.int (i32 (A 18 (n).toNat)), .int (i32 (free))]) (st := []) rfl rfl rfl rfl ⟨rfl, rfl, Nat.le_of_ble_eq_true rfl⟩ rfl rfl (ME_all X 22 (dd := d) (hd := by omega) (hW := hW210) (e := A 18 (n).toNat) (free := free) (lo := n + 1) (hi := hi) (mo := mo2_209) (e_mo := show G207 59 = mo2_209 from (e213))  (h_e := ⟨(Int.le_trans (by decide : (-2147483648 : Int) ≤ -2147483648) b222.1), (Int.le_trans b222.2 (by decide : (2147483647 : Int) ≤ 2147483647))⟩) (h_free := ⟨(Int.le_trans (by decide : (-2147483648 : Int) ≤ -2147483648) rx_free.1), (Int.le_trans rx_free.2 (by decide : (2147483647 : Int) ≤ 2147483647))⟩)  (p_0 := by omega) (p_1 := by omega) (p_2 := by omega) (p_3 := by omega) (p_4 := by omega) (p_5 := (wE_mono (by omega) (by omega) (by omega) (wE_fr hF218 (by decide) (by decide) (by omega) hq2))) (p_6 := by omega)) (fun o V_q hq => ?_)
    obtain ⟨G223, A224, mo2_225, rfl, rfl, hW226, hF227, hQ228, e229, p230, p231, p232, -⟩ := hq
    have hF234 := Fr_tr hF218 hF227 (Fr_sub (by decide)) (Fr_sub (by decide))
    have hO235 := Fo_tr hO219 hQ228 (by omega) (by omega)
    have hN236 := Fo_f hN220 hF227 (by decide)
    have sf237 : lD A224 (s0) ((A 24 (n).toNat).toNat) (fr) (lv) := lD_fo hF227 (by decide) (Fo_f (lo := 0) (hi := 0) Fo_rf hF227 (by decide)) (by omega) (by omega) sf221
    have sf238 : lR A224 (A 17 (n).toNat) (free) (mo2_209) := lR_mv (by omega) (Ag_fr hF227 (by decide)) (fun j h1 h2 => hQ228 25 j rfl (by omega)) (wR_fr hF218 (by decide) (by decide) (by omega) hq1) p216
    have bmo2_225 : (-2147483648 : Int) ≤ mo2_225 ∧ mo2_225 ≤ 2147483647 := e229 ▸ hW226.1 59
    refine .inl ⟨rfl, ?_⟩
    refine jx_ar (pc_q := 159) (st_q := [.int (i32 (0))]) rfl rfl rfl rfl ?_
    refine jx_rt (v := some (.int (i32 (0)))) rfl rfl rfl rfl rfl rfl ?_
    exact ⟨_, _, _, mo2_225, lv, rfl, rfl, hW226, hF234, hO235, hN236, by omega, (e229), ((hF227.1 60 rfl).trans ((hF211.1 60 rfl).trans (fx_60))), by omega, by omega, by omega, by omega, by omega, (lP_mk (m := (A 24 (n).toNat).toNat) hF234 (by decide) ((show A224 23 (n).toNat = A 23 (n).toNat from (congrFun ((hF227.2 23 rfl).trans ((hF211.2 23 rfl).trans (hFx.2 23 rfl))) _)).trans w4) (show A224 24 (n).toNat = A 24 (n).toNat from (congrFun ((hF227.2 24 rfl).trans ((hF211.2 24 rfl).trans (hFx.2 24 rfl))) _)) rfl (by omega) (by omega) sf237 (lS_22 (show A224 15 (n).toNat = A 15 (n).toNat from (congrFun ((hF227.2 15 rfl).trans ((hF211.2 15 rfl).trans (hFx.2 15 rfl))) _)) (by omega) ⟨by rw [(show A224 17 (n).toNat = A 17 (n).toNat from (congrFun ((hF227.2 17 rfl).trans ((hF211.2 17 rfl).trans (hFx.2 17 rfl))) _))]; exact lR_sz (by omega) sf238, by rw [(show A224 18 (n).toNat = A 18 (n).toNat from (congrFun ((hF227.2 18 rfl).trans ((hF211.2 18 rfl).trans (hFx.2 18 rfl))) _))]; exact lE_sz (by omega) (by omega) p232⟩)), trivial⟩
  · refine jx_swe (z := 23) (tg := 136) h205 rfl rfl rfl rfl ?_
    obtain ⟨ch6, hq1, hq2⟩ := wS_i223 w8 (by omega)
    refine jx_ld (pc_q := 137) (l_q := L203) (st_q := [.ref 66]) rfl (jl_aloadn gL203_0) ?_
    refine jx_ld (pc_q := 138) (l_q := L203) (st_q := [.ref 66, .ref 66]) rfl (jl_aloadn gL203_0) ?_
    refine jr_get (pc_q := 141) (i := 34) (v := .ref 84) rfl rfl (by decide) rfl rfl ?_
    refine jx_ld (pc_q := 142) (l_q := L203) (st_q := [.int (i32 (n)), .ref 84, .ref 66]) rfl (jl_iloadn gL203_1) ?_
    have b239 : (-2147483648 : Int) ≤ A 17 (n).toNat ∧ A 17 (n).toNat ≤ 2147483647 := hW.2 17 _
    refine jr_ldv (pc_q := 143) (i := 17) (m := 7000) (z := n) (y := A 17 (n).toNat) rfl (by decide) rfl (by decide) (by omega) (by omega) rfl (show Ax 17 (n).toNat = A 17 (n).toNat from (congrFun (hFx.2 17 rfl) _)) ?_
    refine jx_ld (pc_q := 144) (l_q := L203) (st_q := [.int (i32 (free)), .int (i32 (A 17 (n).toNat)), .ref 66]) rfl (jl_iloadn gL203_3) ?_
    refine jx_vr (pc_q := 147) (as := [.int (i32 (A 17 (n).toNat)), .int (i32 (free))]) (st := []) rfl rfl rfl rfl ⟨rfl, rfl, Nat.le_of_ble_eq_true rfl⟩ rfl rfl (c_measureReference (dd := d) (hd := by omega) (hW := hWx) (x := A 17 (n).toNat) (free := free) (lo := lo) (hi := n) (mo := mo1) (e_mo := show Gx 59 = mo1 from (ex_mo1))  (h_x := ⟨(Int.le_trans (by decide : (-2147483648 : Int) ≤ -2147483648) b239.1), (Int.le_trans b239.2 (by decide : (2147483647 : Int) ≤ 2147483647))⟩) (h_free := ⟨(Int.le_trans (by decide : (-2147483648 : Int) ≤ -2147483648) rx_free.1), (Int.le_trans rx_free.2 (by decide : (2147483647 : Int) ≤ 2147483647))⟩)  (p_0 := by omega) (p_1 := by omega) (p_2 := by omega) (p_3 := by omega) (p_4 := by omega) (p_5 := (wR_mono (by omega) (by omega) (by omega) (wR_fr hFx (by decide) (by decide) (by omega) hq1)))) (fun o V_q hq => ?_)
    obtain ⟨G240, A241, mo2_242, rfl, rfl, hW243, hF244, hQ245, e246, p247, p248, p249, -⟩ := hq
    have hF251 := Fr_tr hFx hF244 (Fr_sub (by decide)) (Fr_sub (by decide))
    have hO252 := Fo_tr hOx hQ245 (by omega) (by omega)
    have hN253 := Fo_f hNx hF244 (by decide)
    have sf254 : lD A241 (s0) ((A 24 (n).toNat).toNat) (fr) (lv) := lD_fo hF244 (by decide) (Fo_f (lo := 0) (hi := 0) Fo_rf hF244 (by decide)) (by omega) (by omega) iv_6
    have bmo2_242 : (-2147483648 : Int) ≤ mo2_242 ∧ mo2_242 ≤ 2147483647 := e246 ▸ hW243.1 59
    refine .inl ⟨rfl, ?_⟩
    refine jx_ld (pc_q := 148) (l_q := L203) (st_q := [.ref 66]) rfl (jl_aloadn gL203_0) ?_
    refine jx_ld (pc_q := 149) (l_q := L203) (st_q := [.ref 66, .ref 66]) rfl (jl_aloadn gL203_0) ?_
    refine jr_get (pc_q := 152) (i := 35) (v := .ref 85) rfl rfl (by decide) rfl rfl ?_
    refine jx_ld (pc_q := 153) (l_q := L203) (st_q := [.int (i32 (n)), .ref 85, .ref 66]) rfl (jl_iloadn gL203_1) ?_
    have b255 : (-2147483648 : Int) ≤ A 18 (n).toNat ∧ A 18 (n).toNat ≤ 2147483647 := hW.2 18 _
    refine jr_ldv (pc_q := 154) (i := 18) (m := 7000) (z := n) (y := A 18 (n).toNat) rfl (by decide) rfl (by decide) (by omega) (by omega) rfl (show A241 18 (n).toNat = A 18 (n).toNat from (congrFun ((hF244.2 18 rfl).trans (hFx.2 18 rfl)) _)) ?_
    refine jx_ld (pc_q := 155) (l_q := L203) (st_q := [.int (i32 (free)), .int (i32 (A 18 (n).toNat)), .ref 66]) rfl (jl_iloadn gL203_3) ?_
    refine jx_vr (pc_q := 158) (as := [.int (i32 (A 18 (n).toNat)), .int (i32 (free))]) (st := []) rfl rfl rfl rfl ⟨rfl, rfl, Nat.le_of_ble_eq_true rfl⟩ rfl rfl (ME_all X 22 (dd := d) (hd := by omega) (hW := hW243) (e := A 18 (n).toNat) (free := free) (lo := n + 1) (hi := hi) (mo := mo2_242) (e_mo := show G240 59 = mo2_242 from (e246))  (h_e := ⟨(Int.le_trans (by decide : (-2147483648 : Int) ≤ -2147483648) b255.1), (Int.le_trans b255.2 (by decide : (2147483647 : Int) ≤ 2147483647))⟩) (h_free := ⟨(Int.le_trans (by decide : (-2147483648 : Int) ≤ -2147483648) rx_free.1), (Int.le_trans rx_free.2 (by decide : (2147483647 : Int) ≤ 2147483647))⟩)  (p_0 := by omega) (p_1 := by omega) (p_2 := by omega) (p_3 := by omega) (p_4 := by omega) (p_5 := (wE_mono (by omega) (by omega) (by omega) (wE_fr hF251 (by decide) (by decide) (by omega) hq2))) (p_6 := by omega)) (fun o V_q hq => ?_)
    obtain ⟨G256, A257, mo2_258, rfl, rfl, hW259, hF260, hQ261, e262, p263, p264, p265, -⟩ := hq
    have hF267 := Fr_tr hF251 hF260 (Fr_sub (by decide)) (Fr_sub (by decide))
    have hO268 := Fo_tr hO252 hQ261 (by omega) (by omega)
    have hN269 := Fo_f hN253 hF260 (by decide)
    have sf270 : lD A257 (s0) ((A 24 (n).toNat).toNat) (fr) (lv) := lD_fo hF260 (by decide) (Fo_f (lo := 0) (hi := 0) Fo_rf hF260 (by decide)) (by omega) (by omega) sf254
    have sf271 : lR A257 (A 17 (n).toNat) (free) (mo2_242) := lR_mv (by omega) (Ag_fr hF260 (by decide)) (fun j h1 h2 => hQ261 25 j rfl (by omega)) (wR_fr hF251 (by decide) (by decide) (by omega) hq1) p249
    have bmo2_258 : (-2147483648 : Int) ≤ mo2_258 ∧ mo2_258 ≤ 2147483647 := e262 ▸ hW259.1 59
    refine .inl ⟨rfl, ?_⟩
    refine jx_ar (pc_q := 159) (st_q := [.int (i32 (0))]) rfl rfl rfl rfl ?_
    refine jx_rt (v := some (.int (i32 (0)))) rfl rfl rfl rfl rfl rfl ?_
    exact ⟨_, _, _, mo2_258, lv, rfl, rfl, hW259, hF267, hO268, hN269, by omega, (e262), ((hF260.1 60 rfl).trans ((hF244.1 60 rfl).trans (fx_60))), by omega, by omega, by omega, by omega, by omega, (lP_mk (m := (A 24 (n).toNat).toNat) hF267 (by decide) ((show A257 23 (n).toNat = A 23 (n).toNat from (congrFun ((hF260.2 23 rfl).trans ((hF244.2 23 rfl).trans (hFx.2 23 rfl))) _)).trans w4) (show A257 24 (n).toNat = A 24 (n).toNat from (congrFun ((hF260.2 24 rfl).trans ((hF244.2 24 rfl).trans (hFx.2 24 rfl))) _)) rfl (by omega) (by omega) sf270 (lS_22 (show A257 15 (n).toNat = A 15 (n).toNat from (congrFun ((hF260.2 15 rfl).trans ((hF244.2 15 rfl).trans (hFx.2 15 rfl))) _)) (by omega) ⟨by rw [(show A257 17 (n).toNat = A 17 (n).toNat from (congrFun ((hF260.2 17 rfl).trans ((hF244.2 17 rfl).trans (hFx.2 17 rfl))) _))]; exact lR_sz (by omega) sf271, by rw [(show A257 18 (n).toNat = A 18 (n).toNat from (congrFun ((hF260.2 18 rfl).trans ((hF244.2 18 rfl).trans (hFx.2 18 rfl))) _))]; exact lE_sz (by omega) (by omega) p265⟩)), trivial⟩
  · refine jx_swe (z := 24) (tg := 160) h205 rfl rfl rfl rfl ?_
    have hq := wS_i24 w8 (by omega)
    refine jx_ld (pc_q := 161) (l_q := L203) (st_q := [.ref 66]) rfl (jl_aloadn gL203_0) ?_
    refine jx_ld (pc_q := 162) (l_q := L203) (st_q := [.ref 66, .ref 66]) rfl (jl_aloadn gL203_0) ?_
    refine jr_get (pc_q := 165) (i := 34) (v := .ref 84) rfl rfl (by decide) rfl rfl ?_
    refine jx_ld (pc_q := 166) (l_q := L203) (st_q := [.int (i32 (n)), .ref 84, .ref 66]) rfl (jl_iloadn gL203_1) ?_
    have b272 : (-2147483648 : Int) ≤ A 17 (n).toNat ∧ A 17 (n).toNat ≤ 2147483647 := hW.2 17 _
    refine jr_ldv (pc_q := 167) (i := 17) (m := 7000) (z := n) (y := A 17 (n).toNat) rfl (by decide) rfl (by decide) (by omega) (by omega) rfl (show Ax 17 (n).toNat = A 17 (n).toNat from (congrFun (hFx.2 17 rfl) _)) ?_
    refine jx_ld (pc_q := 168) (l_q := L203) (st_q := [.int (i32 (free)), .int (i32 (A 17 (n).toNat)), .ref 66]) rfl (jl_iloadn gL203_3) ?_
    refine jx_vr (pc_q := 171) (as := [.int (i32 (A 17 (n).toNat)), .int (i32 (free))]) (st := []) rfl rfl rfl rfl ⟨rfl, rfl, Nat.le_of_ble_eq_true rfl⟩ rfl rfl (c_measureReference (dd := d) (hd := by omega) (hW := hWx) (x := A 17 (n).toNat) (free := free) (lo := lo) (hi := n) (mo := mo1) (e_mo := show Gx 59 = mo1 from (ex_mo1))  (h_x := ⟨(Int.le_trans (by decide : (-2147483648 : Int) ≤ -2147483648) b272.1), (Int.le_trans b272.2 (by decide : (2147483647 : Int) ≤ 2147483647))⟩) (h_free := ⟨(Int.le_trans (by decide : (-2147483648 : Int) ≤ -2147483648) rx_free.1), (Int.le_trans rx_free.2 (by decide : (2147483647 : Int) ≤ 2147483647))⟩)  (p_0 := by omega) (p_1 := by omega) (p_2 := by omega) (p_3 := by omega) (p_4 := by omega) (p_5 := (wR_mono (by omega) (by omega) (by omega) (wR_fr hFx (by decide) (by decide) (by omega) hq.2.1)))) (fun o V_q hq => ?_)
    obtain ⟨G273, A274, mo2_275, rfl, rfl, hW276, hF277, hQ278, e279, p280, p281, p282, -⟩ := hq
    have hF284 := Fr_tr hFx hF277 (Fr_sub (by decide)) (Fr_sub (by decide))
    have hO285 := Fo_tr hOx hQ278 (by omega) (by omega)
    have hN286 := Fo_f hNx hF277 (by decide)
    have sf287 : lD A274 (s0) ((A 24 (n).toNat).toNat) (fr) (lv) := lD_fo hF277 (by decide) (Fo_f (lo := 0) (hi := 0) Fo_rf hF277 (by decide)) (by omega) (by omega) iv_6
    have bmo2_275 : (-2147483648 : Int) ≤ mo2_275 ∧ mo2_275 ≤ 2147483647 := e279 ▸ hW276.1 59
    refine .inl ⟨rfl, ?_⟩
    refine jx_ld (pc_q := 172) (l_q := L203) (st_q := [.ref 66]) rfl (jl_aloadn gL203_0) ?_
    refine jx_ld (pc_q := 173) (l_q := L203) (st_q := [.ref 66, .ref 66]) rfl (jl_aloadn gL203_0) ?_
    refine jr_get (pc_q := 176) (i := 35) (v := .ref 85) rfl rfl (by decide) rfl rfl ?_
    refine jx_ld (pc_q := 177) (l_q := L203) (st_q := [.int (i32 (n)), .ref 85, .ref 66]) rfl (jl_iloadn gL203_1) ?_
    have b288 : (-2147483648 : Int) ≤ A 18 (n).toNat ∧ A 18 (n).toNat ≤ 2147483647 := hW.2 18 _
    refine jr_ldv (pc_q := 178) (i := 18) (m := 7000) (z := n) (y := A 18 (n).toNat) rfl (by decide) rfl (by decide) (by omega) (by omega) rfl (show A274 18 (n).toNat = A 18 (n).toNat from (congrFun ((hF277.2 18 rfl).trans (hFx.2 18 rfl)) _)) ?_
    refine jx_ld (pc_q := 179) (l_q := L203) (st_q := [.int (i32 (free)), .int (i32 (A 18 (n).toNat)), .ref 66]) rfl (jl_iloadn gL203_3) ?_
    refine jx_vr (pc_q := 182) (as := [.int (i32 (A 18 (n).toNat)), .int (i32 (free))]) (st := []) rfl rfl rfl rfl ⟨rfl, rfl, Nat.le_of_ble_eq_true rfl⟩ rfl rfl (c_measureReference (dd := d) (hd := by omega) (hW := hW276) (x := A 18 (n).toNat) (free := free) (lo := n + 1) (hi := hi) (mo := mo2_275) (e_mo := show G273 59 = mo2_275 from (e279))  (h_x := ⟨(Int.le_trans (by decide : (-2147483648 : Int) ≤ -2147483648) b288.1), (Int.le_trans b288.2 (by decide : (2147483647 : Int) ≤ 2147483647))⟩) (h_free := ⟨(Int.le_trans (by decide : (-2147483648 : Int) ≤ -2147483648) rx_free.1), (Int.le_trans rx_free.2 (by decide : (2147483647 : Int) ≤ 2147483647))⟩)  (p_0 := by omega) (p_1 := by omega) (p_2 := by omega) (p_3 := by omega) (p_4 := by omega) (p_5 := (wR_mono (by omega) (by omega) (by omega) (wR_fr hF284 (by decide) (by decide) (by omega) hq.2.2)))) (fun o V_q hq => ?_)
    obtain ⟨G289, A290, mo2_291, rfl, rfl, hW292, hF293, hQ294, e295, p296, p297, p298, -⟩ := hq
    have hF300 := Fr_tr hF284 hF293 (Fr_sub (by decide)) (Fr_sub (by decide))
    have hO301 := Fo_tr hO285 hQ294 (by omega) (by omega)
    have hN302 := Fo_f hN286 hF293 (by decide)
    have sf303 : lD A290 (s0) ((A 24 (n).toNat).toNat) (fr) (lv) := lD_fo hF293 (by decide) (Fo_f (lo := 0) (hi := 0) Fo_rf hF293 (by decide)) (by omega) (by omega) sf287
    have sf304 : lR A290 (A 17 (n).toNat) (free) (mo2_275) := lR_mv (by omega) (Ag_fr hF293 (by decide)) (fun j h1 h2 => hQ294 25 j rfl (by omega)) (wR_fr hF284 (by decide) (by decide) (by omega) hq.2.1) p282
    have bmo2_291 : (-2147483648 : Int) ≤ mo2_291 ∧ mo2_291 ≤ 2147483647 := e295 ▸ hW292.1 59
    refine .inl ⟨rfl, ?_⟩
    refine jx_ar (pc_q := 183) (st_q := [.int (i32 (0))]) rfl rfl rfl rfl ?_
    refine jx_rt (v := some (.int (i32 (0)))) rfl rfl rfl rfl rfl rfl ?_
    exact ⟨_, _, _, mo2_291, lv, rfl, rfl, hW292, hF300, hO301, hN302, by omega, (e295), ((hF293.1 60 rfl).trans ((hF277.1 60 rfl).trans (fx_60))), by omega, by omega, by omega, by omega, by omega, (lP_mk (m := (A 24 (n).toNat).toNat) hF300 (by decide) ((show A290 23 (n).toNat = A 23 (n).toNat from (congrFun ((hF293.2 23 rfl).trans ((hF277.2 23 rfl).trans (hFx.2 23 rfl))) _)).trans w4) (show A290 24 (n).toNat = A 24 (n).toNat from (congrFun ((hF293.2 24 rfl).trans ((hF277.2 24 rfl).trans (hFx.2 24 rfl))) _)) rfl (by omega) (by omega) sf303 (lS_24 (show A290 15 (n).toNat = A 15 (n).toNat from (congrFun ((hF293.2 15 rfl).trans ((hF277.2 15 rfl).trans (hFx.2 15 rfl))) _)) (by omega) ⟨by rw [(show A290 17 (n).toNat = A 17 (n).toNat from (congrFun ((hF293.2 17 rfl).trans ((hF277.2 17 rfl).trans (hFx.2 17 rfl))) _))]; exact lR_sz (by omega) sf304, by rw [(show A290 18 (n).toNat = A 18 (n).toNat from (congrFun ((hF293.2 18 rfl).trans ((hF277.2 18 rfl).trans (hFx.2 18 rfl))) _))]; exact lR_sz (by omega) p298⟩)), trivial⟩
  · refine jx_swe (z := 25) (tg := 184) h205 rfl rfl rfl rfl ?_
    obtain ⟨g1, g2, g3, l0, ch0, g4, g5⟩ := wS_i25 w8 (by omega)
    refine jx_ld (pc_q := 185) (l_q := L203) (st_q := [.ref 66]) rfl (jl_aloadn gL203_0) ?_
    refine jr_get (pc_q := 188) (i := 38) (v := .ref 88) rfl rfl (by decide) rfl rfl ?_
    refine jx_ld (pc_q := 189) (l_q := L203) (st_q := [.int (i32 (n)), .ref 88]) rfl (jl_iloadn gL203_1) ?_
    have b305 : (-2147483648 : Int) ≤ A 21 (n).toNat ∧ A 21 (n).toNat ≤ 2147483647 := hW.2 21 _
    refine jr_ldv (pc_q := 190) (i := 21) (m := 7000) (z := n) (y := A 21 (n).toNat) rfl (by decide) rfl (by decide) (by omega) (by omega) rfl (show Ax 21 (n).toNat = A 21 (n).toNat from (congrFun (hFx.2 21 rfl) _)) ?_
    refine jx_ld (pc_q := 192) (l_q := jSto1 L203 5 (.int (i32 (A 21 (n).toNat)))) (st_q := []) rfl rfl ?_
    obtain ⟨L306, eL306⟩ : ∃ q, q = jSto1 L203 5 (.int (i32 (A 21 (n).toNat))) := ⟨_, rfl⟩
    rw [← eL306]
    have gL306_0 : jGet L306 0 = some (.ref 66) := eL306 ▸ jg_ne (by decide) gL203_0 rfl
    have gL306_1 : jGet L306 1 = some (.int (i32 (n))) := eL306 ▸ jg_ne (by decide) gL203_1 rfl
    have gL306_2 : jGet L306 2 = some (.int (i32 (fr))) := eL306 ▸ jg_ne (by decide) gL203_2 rfl
    have gL306_3 : jGet L306 3 = some (.int (i32 (free))) := eL306 ▸ jg_ne (by decide) gL203_3 rfl
    have gL306_4 : jGet L306 4 = some (.int (i32 (0))) := eL306 ▸ jg_ne (by decide) gL203_4 rfl
    have gL306_5 : jGet L306 5 = some (.int (i32 (A 21 (n).toNat))) := eL306 ▸ jg_eq
    exact c_measure_s_at_192 (X := X) (k := k) (hM := hM) (d := d) (Vs := Vs) (sb := sb) (pb := pb) (c0 := c0) (c1 := c1) (G := G) (A := A) (T := T) (n := n) (fr := fr) (lo := lo) (hi := hi) (s0 := s0) (s1 := s1) (mo := mo) (lv := lv) (hd := hd) (hW := hW) (e_mo := e_mo) (e_lv := e_lv) (h_n := h_n) (h_fr := h_fr) (p_0 := p_0) (p_1 := p_1) (p_2 := p_2) (p_3 := p_3) (p_4 := p_4) (p_5 := p_5) (p_6 := p_6) (p_7 := p_7) (p_8 := p_8) (p_9 := p_9) (p_10 := p_10) (p_11 := p_11) (p_12 := p_12) (p_13 := p_13) _ L306 Gx Ax (free) (A 21 (n).toNat) (mo1) (n + 1) rfl gL306_0 gL306_1 gL306_2 gL306_3 gL306_5 hWx hFx hOx hNx ((ex_mo1)) ((fx_60)) (by omega) (by omega) (by omega) (by omega) (by omega) (by omega) (by omega) (by omega) (iv_6) (by omega) (by omega) (by omega) (by omega) (by omega) ((LA_0 ⟨l0, ch0, g5⟩ (by omega)))
  · refine jx_swe (z := 26) (tg := 254) h205 rfl rfl rfl rfl ?_
    have hq := wS_i26 w8 (by omega)
    refine jx_ld (pc_q := 255) (l_q := L203) (st_q := [.ref 66]) rfl (jl_aloadn gL203_0) ?_
    refine jr_get (pc_q := 258) (i := 38) (v := .ref 88) rfl rfl (by decide) rfl rfl ?_
    refine jx_ld (pc_q := 259) (l_q := L203) (st_q := [.int (i32 (n)), .ref 88]) rfl (jl_iloadn gL203_1) ?_
    have b307 : (-2147483648 : Int) ≤ A 21 (n).toNat ∧ A 21 (n).toNat ≤ 2147483647 := hW.2 21 _
    refine jr_ldv (pc_q := 260) (i := 21) (m := 7000) (z := n) (y := A 21 (n).toNat) rfl (by decide) rfl (by decide) (by omega) (by omega) rfl (show Ax 21 (n).toNat = A 21 (n).toNat from (congrFun (hFx.2 21 rfl) _)) ?_
    refine jx_ld (pc_q := 262) (l_q := jSto1 L203 5 (.int (i32 (A 21 (n).toNat)))) (st_q := []) rfl rfl ?_
    obtain ⟨L308, eL308⟩ : ∃ q, q = jSto1 L203 5 (.int (i32 (A 21 (n).toNat))) := ⟨_, rfl⟩
    rw [← eL308]
    have gL308_0 : jGet L308 0 = some (.ref 66) := eL308 ▸ jg_ne (by decide) gL203_0 rfl
    have gL308_1 : jGet L308 1 = some (.int (i32 (n))) := eL308 ▸ jg_ne (by decide) gL203_1 rfl
    have gL308_2 : jGet L308 2 = some (.int (i32 (fr))) := eL308 ▸ jg_ne (by decide) gL203_2 rfl
    have gL308_3 : jGet L308 3 = some (.int (i32 (free))) := eL308 ▸ jg_ne (by decide) gL203_3 rfl
    have gL308_4 : jGet L308 4 = some (.int (i32 (0))) := eL308 ▸ jg_ne (by decide) gL203_4 rfl
    have gL308_5 : jGet L308 5 = some (.int (i32 (A 21 (n).toNat))) := eL308 ▸ jg_eq
    exact c_measure_s_at_262 (X := X) (k := k) (hM := hM) (d := d) (Vs := Vs) (sb := sb) (pb := pb) (c0 := c0) (c1 := c1) (G := G) (A := A) (T := T) (n := n) (fr := fr) (lo := lo) (hi := hi) (s0 := s0) (s1 := s1) (mo := mo) (lv := lv) (hd := hd) (hW := hW) (e_mo := e_mo) (e_lv := e_lv) (h_n := h_n) (h_fr := h_fr) (p_0 := p_0) (p_1 := p_1) (p_2 := p_2) (p_3 := p_3) (p_4 := p_4) (p_5 := p_5) (p_6 := p_6) (p_7 := p_7) (p_8 := p_8) (p_9 := p_9) (p_10 := p_10) (p_11 := p_11) (p_12 := p_12) (p_13 := p_13) _ L308 Gx Ax (free) (0) (A 21 (n).toNat) (mo1) (n + 1) ((s0 + A 24 (n).toNat)) rfl gL308_0 gL308_1 gL308_2 gL308_3 gL308_4 gL308_5 hWx hFx hOx hNx ((ex_mo1)) ((fx_60)) (by omega) (by omega) (by omega) (by omega) (by omega) (by omega) (by omega) (by omega) (by omega) (iv_6) (by omega) (by omega) (by omega) (by omega) (by omega) (by omega) (by omega) ((LSq_0 hq (by omega)))
  · refine jx_swe (z := 27) (tg := 296) h205 rfl rfl rfl rfl ?_
    obtain ⟨g1, g2, g3, a7, b7, g4, g5, g6, g7, g8, g9⟩ := wS_i27 w8 (by omega)
    refine jx_ld (pc_q := 297) (l_q := L203) (st_q := [.ref 66]) rfl (jl_aloadn gL203_0) ?_
    refine jr_get (pc_q := 300) (i := 23) (v := .ref 76) rfl rfl (by decide) rfl rfl ?_
    refine jx_ld (pc_q := 301) (l_q := L203) (st_q := [.ref 66, .ref 76]) rfl (jl_aloadn gL203_0) ?_
    refine jr_get (pc_q := 304) (i := 34) (v := .ref 84) rfl rfl (by decide) rfl rfl ?_
    refine jx_ld (pc_q := 305) (l_q := L203) (st_q := [.int (i32 (n)), .ref 84, .ref 76]) rfl (jl_iloadn gL203_1) ?_
    have b309 : (-2147483648 : Int) ≤ A 17 (n).toNat ∧ A 17 (n).toNat ≤ 2147483647 := hW.2 17 _
    refine jr_ldv (pc_q := 306) (i := 17) (m := 7000) (z := n) (y := A 17 (n).toNat) rfl (by decide) rfl (by decide) (by omega) (by omega) rfl (show Ax 17 (n).toNat = A 17 (n).toNat from (congrFun (hFx.2 17 rfl) _)) ?_
    refine jx_ld (pc_q := 307) (l_q := L203) (st_q := [.int (i32 (free)), .int (i32 (A 17 (n).toNat)), .ref 76]) rfl (jl_iloadn gL203_3) ?_
    refine jr_st (pc_q := 308) (i := 9) (m := 260) (z := A 17 (n).toNat) (y := free) rfl (by decide) rfl (by decide) (by omega) (by omega) rfl ?_
    have hW311 : Wk Gx (uA Ax 9 (A 17 (n).toNat).toNat (free)) := Wk_a hWx (show (-2147483648 : Int) ≤ free by omega) (show free ≤ (2147483647 : Int) by omega)
    have hF312 := Fr_a (z := free) (k := 9) (n := (A 17 (n).toNat).toNat) hFx (by decide)
    obtain ⟨A310, eA310⟩ : ∃ q, q = uA Ax 9 (A 17 (n).toNat).toNat (free) := ⟨_, rfl⟩
    rw [← eA310]
    rw [← eA310] at hW311 hF312
    have q313 : A310 9 (A 17 (n).toNat).toNat = free := by rw [eA310]; exact uA_eq
    have hO314 : Fo [25, 26, 27] (lo) (hi) A A310 := eA310 ▸ Fo_n hOx rfl
    have hN315 : Fo [9, 10] (s0) (s1) A A310 := eA310 ▸ Fo_a hNx (z := A 17 (n).toNat) (by omega) (by omega) (by omega)
    have sf316 : lD A310 (s0) ((A 24 (n).toNat).toNat) (fr) (lv) := lD_st eA310 (by omega) (by omega) (by decide) (by omega) iv_6
    refine jx_ld (pc_q := 309) (l_q := L203) (st_q := [.ref 66]) rfl (jl_aloadn gL203_0) ?_
    refine jr_get (pc_q := 312) (i := 24) (v := .ref 77) rfl rfl (by decide) rfl rfl ?_
    refine jx_ld (pc_q := 313) (l_q := L203) (st_q := [.ref 66, .ref 77]) rfl (jl_aloadn gL203_0) ?_
    refine jr_get (pc_q := 316) (i := 34) (v := .ref 84) rfl rfl (by decide) rfl rfl ?_
    refine jx_ld (pc_q := 317) (l_q := L203) (st_q := [.int (i32 (n)), .ref 84, .ref 77]) rfl (jl_iloadn gL203_1) ?_
    refine jr_ldv (pc_q := 318) (i := 17) (m := 7000) (z := n) (y := A 17 (n).toNat) rfl (by decide) rfl (by decide) (by omega) (by omega) rfl (show A310 17 (n).toNat = A 17 (n).toNat from (congrFun (((congrFun eA310 17).trans (uA_ne (by decide))).trans (hFx.2 17 rfl)) _)) ?_
    refine jx_ld (pc_q := 319) (l_q := L203) (st_q := [.ref 66, .int (i32 (A 17 (n).toNat)), .ref 77]) rfl (jl_aloadn gL203_0) ?_
    refine jr_get (pc_q := 322) (i := 60) (v := .int (i32 (lv))) rfl rfl (by decide) (rFv_eq (by decide) (show Gx 60 = lv from (fx_60))) rfl ?_
    refine jr_st (pc_q := 323) (i := 10) (m := 260) (z := A 17 (n).toNat) (y := lv) rfl (by decide) rfl (by decide) (by omega) (by omega) rfl ?_
    have hW318 : Wk Gx (uA A310 10 (A 17 (n).toNat).toNat (lv)) := Wk_a hW311 (show (-2147483648 : Int) ≤ lv by omega) (show lv ≤ (2147483647 : Int) by omega)
    have hF319 := Fr_a (z := lv) (k := 10) (n := (A 17 (n).toNat).toNat) hF312 (by decide)
    obtain ⟨A317, eA317⟩ : ∃ q, q = uA A310 10 (A 17 (n).toNat).toNat (lv) := ⟨_, rfl⟩
    rw [← eA317]
    rw [← eA317] at hW318 hF319
    have q320 : A317 10 (A 17 (n).toNat).toNat = lv := by rw [eA317]; exact uA_eq
    have hO321 : Fo [25, 26, 27] (lo) (hi) A A317 := eA317 ▸ Fo_n hO314 rfl
    have hN322 : Fo [9, 10] (s0) (s1) A A317 := eA317 ▸ Fo_a hN315 (z := A 17 (n).toNat) (by omega) (by omega) (by omega)
    have sf323 : lD A317 (s0) ((A 24 (n).toNat).toNat) (fr) (lv) := lD_st eA317 (by omega) (by omega) (by decide) (by omega) sf316
    refine jx_ld (pc_q := 324) (l_q := L203) (st_q := [.ref 66]) rfl (jl_aloadn gL203_0) ?_
    refine jx_ld (pc_q := 325) (l_q := L203) (st_q := [.int (i32 (free)), .ref 66]) rfl (jl_iloadn gL203_3) ?_
    refine jx_ar (pc_q := 326) (st_q := [.int (i32 (2)), .int (i32 (free)), .ref 66]) rfl rfl rfl rfl ?_
    refine jx_add (pc_q := 327) rfl rfl ?_
    refine jx_vr (pc_q := 330) (as := [.int (i32 ((free + 2)))]) (st := []) rfl rfl rfl rfl ⟨rfl, rfl, Nat.le_of_ble_eq_true rfl⟩ rfl rfl (c_reach (dd := d) (hd := by omega) (hW := hW318) (free := (free + 2)) (mo := mo1) (e_mo := show Gx 59 = mo1 from (ex_mo1))  (h_free := ⟨(by omega), (by omega)⟩)  (p_0 := by omega) (p_1 := by omega)) (fun o V_q hq => ?_)
    obtain ⟨G324, A325, mo2_326, rfl, rfl, hW327, hF328, e329, p330, p331, p332, -⟩ := hq
    have hF334 := Fr_tr hF319 hF328 (Fr_sub (by decide)) (Fr_sub (by decide))
    have hO335 := Fo_f hO321 hF328 (by decide)
    have hN336 := Fo_f hN322 hF328 (by decide)
    have sf337 : lD A325 (s0) ((A 24 (n).toNat).toNat) (fr) (lv) := lD_fo hF328 (by decide) (Fo_f (lo := 0) (hi := 0) Fo_rf hF328 (by decide)) (by omega) (by omega) sf323
    have bmo2_326 : (-2147483648 : Int) ≤ mo2_326 ∧ mo2_326 ≤ 2147483647 := e329 ▸ hW327.1 59
    refine .inl ⟨rfl, ?_⟩
    refine jx_ld (pc_q := 331) (l_q := L203) (st_q := [.ref 66]) rfl (jl_aloadn gL203_0) ?_
    refine jx_ld (pc_q := 332) (l_q := L203) (st_q := [.ref 66, .ref 66]) rfl (jl_aloadn gL203_0) ?_
    refine jr_get (pc_q := 335) (i := 36) (v := .ref 86) rfl rfl (by decide) rfl rfl ?_
    refine jx_ld (pc_q := 336) (l_q := L203) (st_q := [.int (i32 (n)), .ref 86, .ref 66]) rfl (jl_iloadn gL203_1) ?_
    have b338 : (-2147483648 : Int) ≤ A 19 (n).toNat ∧ A 19 (n).toNat ≤ 2147483647 := hW.2 19 _
    refine jr_ldv (pc_q := 337) (i := 19) (m := 7000) (z := n) (y := A 19 (n).toNat) rfl (by decide) rfl (by decide) (by omega) (by omega) rfl (show A325 19 (n).toNat = A 19 (n).toNat from (congrFun ((hF328.2 19 rfl).trans (((congrFun eA317 19).trans (uA_ne (by decide))).trans (((congrFun eA310 19).trans (uA_ne (by decide))).trans (hFx.2 19 rfl)))) _)) ?_
    refine jx_ld (pc_q := 338) (l_q := L203) (st_q := [.int (i32 (free)), .int (i32 (A 19 (n).toNat)), .ref 66]) rfl (jl_iloadn gL203_3) ?_
    refine jx_ar (pc_q := 339) (st_q := [.int (i32 (2)), .int (i32 (free)), .int (i32 (A 19 (n).toNat)), .ref 66]) rfl rfl rfl rfl ?_
    refine jx_add (pc_q := 340) rfl rfl ?_
    refine jx_vr (pc_q := 343) (as := [.int (i32 (A 19 (n).toNat)), .int (i32 ((free + 2)))]) (st := []) rfl rfl rfl rfl ⟨rfl, rfl, Nat.le_of_ble_eq_true rfl⟩ rfl rfl (ME_all X 22 (dd := d) (hd := by omega) (hW := hW327) (e := A 19 (n).toNat) (free := (free + 2)) (lo := n + 1) (hi := a7) (mo := mo2_326) (e_mo := show G324 59 = mo2_326 from (e329))  (h_e := ⟨(Int.le_trans (by decide : (-2147483648 : Int) ≤ -2147483648) b338.1), (Int.le_trans b338.2 (by decide : (2147483647 : Int) ≤ 2147483647))⟩) (h_free := ⟨(by omega), (by omega)⟩)  (p_0 := by omega) (p_1 := by omega) (p_2 := by omega) (p_3 := by omega) (p_4 := by omega) (p_5 := (wE_mono (by omega) (by omega) (by omega) (wE_fr hF334 (by decide) (by decide) (by omega) g7))) (p_6 := by omega)) (fun o V_q hq => ?_)
    obtain ⟨G339, A340, mo2_341, rfl, rfl, hW342, hF343, hQ344, e345, p346, p347, p348, -⟩ := hq
    have hF350 := Fr_tr hF334 hF343 (Fr_sub (by decide)) (Fr_sub (by decide))
    have hO351 := Fo_tr hO335 hQ344 (by omega) (by omega)
    have hN352 := Fo_f hN336 hF343 (by decide)
    have sf353 : lD A340 (s0) ((A 24 (n).toNat).toNat) (fr) (lv) := lD_fo hF343 (by decide) (Fo_f (lo := 0) (hi := 0) Fo_rf hF343 (by decide)) (by omega) (by omega) sf337
    have bmo2_341 : (-2147483648 : Int) ≤ mo2_341 ∧ mo2_341 ≤ 2147483647 := e345 ▸ hW342.1 59
    refine .inl ⟨rfl, ?_⟩
    refine jx_ld (pc_q := 344) (l_q := L203) (st_q := [.ref 66]) rfl (jl_aloadn gL203_0) ?_
    refine jx_ld (pc_q := 345) (l_q := L203) (st_q := [.ref 66, .ref 66]) rfl (jl_aloadn gL203_0) ?_
    refine jr_get (pc_q := 348) (i := 37) (v := .ref 87) rfl rfl (by decide) rfl rfl ?_
    refine jx_ld (pc_q := 349) (l_q := L203) (st_q := [.int (i32 (n)), .ref 87, .ref 66]) rfl (jl_iloadn gL203_1) ?_
    have b354 : (-2147483648 : Int) ≤ A 20 (n).toNat ∧ A 20 (n).toNat ≤ 2147483647 := hW.2 20 _
    refine jr_ldv (pc_q := 350) (i := 20) (m := 7000) (z := n) (y := A 20 (n).toNat) rfl (by decide) rfl (by decide) (by omega) (by omega) rfl (show A340 20 (n).toNat = A 20 (n).toNat from (congrFun ((hF343.2 20 rfl).trans ((hF328.2 20 rfl).trans (((congrFun eA317 20).trans (uA_ne (by decide))).trans (((congrFun eA310 20).trans (uA_ne (by decide))).trans (hFx.2 20 rfl))))) _)) ?_
    refine jx_ld (pc_q := 351) (l_q := L203) (st_q := [.int (i32 (free)), .int (i32 (A 20 (n).toNat)), .ref 66]) rfl (jl_iloadn gL203_3) ?_
    refine jx_ar (pc_q := 352) (st_q := [.int (i32 (2)), .int (i32 (free)), .int (i32 (A 20 (n).toNat)), .ref 66]) rfl rfl rfl rfl ?_
    refine jx_add (pc_q := 353) rfl rfl ?_
    refine jx_vr (pc_q := 356) (as := [.int (i32 (A 20 (n).toNat)), .int (i32 ((free + 2)))]) (st := []) rfl rfl rfl rfl ⟨rfl, rfl, Nat.le_of_ble_eq_true rfl⟩ rfl rfl (ME_all X 22 (dd := d) (hd := by omega) (hW := hW342) (e := A 20 (n).toNat) (free := (free + 2)) (lo := a7) (hi := b7) (mo := mo2_341) (e_mo := show G339 59 = mo2_341 from (e345))  (h_e := ⟨(Int.le_trans (by decide : (-2147483648 : Int) ≤ -2147483648) b354.1), (Int.le_trans b354.2 (by decide : (2147483647 : Int) ≤ 2147483647))⟩) (h_free := ⟨(by omega), (by omega)⟩)  (p_0 := by omega) (p_1 := by omega) (p_2 := by omega) (p_3 := by omega) (p_4 := by omega) (p_5 := (wE_mono (by omega) (by omega) (by omega) (wE_fr hF350 (by decide) (by decide) (by omega) g8))) (p_6 := by omega)) (fun o V_q hq => ?_)
    obtain ⟨G355, A356, mo2_357, rfl, rfl, hW358, hF359, hQ360, e361, p362, p363, p364, -⟩ := hq
    have hF366 := Fr_tr hF350 hF359 (Fr_sub (by decide)) (Fr_sub (by decide))
    have hO367 := Fo_tr hO351 hQ360 (by omega) (by omega)
    have hN368 := Fo_f hN352 hF359 (by decide)
    have sf369 : lD A356 (s0) ((A 24 (n).toNat).toNat) (fr) (lv) := lD_fo hF359 (by decide) (Fo_f (lo := 0) (hi := 0) Fo_rf hF359 (by decide)) (by omega) (by omega) sf353
    have sf370 : lE A356 (22) (A 19 (n).toNat) (free + 2) (mo2_341) := lE_mv (by omega) (Ag_fr hF359 (by decide)) (fun j h1 h2 => hQ360 25 j rfl (by omega)) (wE_fr hF350 (by decide) (by decide) (by omega) g7) p348
    have bmo2_357 : (-2147483648 : Int) ≤ mo2_357 ∧ mo2_357 ≤ 2147483647 := e361 ▸ hW358.1 59
    refine .inl ⟨rfl, ?_⟩
    refine jx_ld (pc_q := 357) (l_q := L203) (st_q := [.ref 66]) rfl (jl_aloadn gL203_0) ?_
    refine jx_ld (pc_q := 358) (l_q := L203) (st_q := [.ref 66, .ref 66]) rfl (jl_aloadn gL203_0) ?_
    refine jr_get (pc_q := 361) (i := 38) (v := .ref 88) rfl rfl (by decide) rfl rfl ?_
    refine jx_ld (pc_q := 362) (l_q := L203) (st_q := [.int (i32 (n)), .ref 88, .ref 66]) rfl (jl_iloadn gL203_1) ?_
    have b371 : (-2147483648 : Int) ≤ A 21 (n).toNat ∧ A 21 (n).toNat ≤ 2147483647 := hW.2 21 _
    refine jr_ldv (pc_q := 363) (i := 21) (m := 7000) (z := n) (y := A 21 (n).toNat) rfl (by decide) rfl (by decide) (by omega) (by omega) rfl (show A356 21 (n).toNat = A 21 (n).toNat from (congrFun ((hF359.2 21 rfl).trans ((hF343.2 21 rfl).trans ((hF328.2 21 rfl).trans (((congrFun eA317 21).trans (uA_ne (by decide))).trans (((congrFun eA310 21).trans (uA_ne (by decide))).trans (hFx.2 21 rfl)))))) _)) ?_
    refine jx_ld (pc_q := 364) (l_q := L203) (st_q := [.int (i32 (free)), .int (i32 (A 21 (n).toNat)), .ref 66]) rfl (jl_iloadn gL203_3) ?_
    refine jx_ar (pc_q := 365) (st_q := [.int (i32 (2)), .int (i32 (free)), .int (i32 (A 21 (n).toNat)), .ref 66]) rfl rfl rfl rfl ?_
    refine jx_add (pc_q := 366) rfl rfl ?_
    refine jx_vr (pc_q := 369) (as := [.int (i32 (A 21 (n).toNat)), .int (i32 ((free + 2)))]) (st := []) rfl rfl rfl rfl ⟨rfl, rfl, Nat.le_of_ble_eq_true rfl⟩ rfl rfl (hM (dd := d) (hd := by omega) (hW := hW358) (n := A 21 (n).toNat) (fr := (free + 2)) (lo := b7) (hi := hi) (s0 := (s0 + A 24 (n).toNat) + 1) (s1 := s1) (mo := mo2_357) (e_mo := show G355 59 = mo2_357 from (e361)) (lv := lv) (e_lv := show G355 60 = lv from ((hF359.1 60 rfl).trans ((hF343.1 60 rfl).trans ((hF328.1 60 rfl).trans (fx_60)))))  (h_n := ⟨(Int.le_trans (by decide : (-2147483648 : Int) ≤ -2147483648) b371.1), (Int.le_trans b371.2 (by decide : (2147483647 : Int) ≤ 2147483647))⟩) (h_fr := ⟨(by omega), (by omega)⟩)  (p_0 := by omega) (p_1 := by omega) (p_2 := by omega) (p_3 := by omega) (p_4 := by omega) (p_5 := by omega) (p_6 := by omega) (p_7 := by omega) (p_8 := (PS_fr hF366 (by decide) p_8)) (p_9 := by omega) (p_10 := by omega) (p_11 := by omega) (p_12 := (wP_fr hF366 (by decide) (by omega) (by omega) g9)) (p_13 := by omega)) (fun o V_q hq => ?_)
    obtain ⟨G372, A373, r374, mo2_375, lv2_376, rfl, rfl, hW377, hF378, hQ379, hQ380, b381, e382, e383, p384, p385, p386, p387, p388, p389, -⟩ := hq
    have hF391 := Fr_tr hF366 hF378 (Fr_sub (by decide)) (Fr_sub (by decide))
    have hO392 := Fo_tr hO367 hQ379 (by omega) (by omega)
    have hN393 := Fo_tr hN368 hQ380 (by omega) (by omega)
    have k394 : A373 9 (A 17 (n).toNat).toNat = free := (hQ380 9 _ rfl (by omega)).trans (show A356 9 (A 17 (n).toNat).toNat = free from (congrFun ((hF359.2 9 rfl).trans ((hF343.2 9 rfl).trans ((hF328.2 9 rfl).trans ((congrFun eA317 9).trans (uA_ne (by decide)))))) _).trans (q313))
    have k395 : A373 10 (A 17 (n).toNat).toNat = lv := (hQ380 10 _ rfl (by omega)).trans (show A356 10 (A 17 (n).toNat).toNat = lv from (congrFun ((hF359.2 10 rfl).trans ((hF343.2 10 rfl).trans (hF328.2 10 rfl))) _).trans (q320))
    have sf396 : lD A373 (s0) ((A 24 (n).toNat).toNat) (fr) (lv) := lD_fo hF378 (by decide) hQ380 (by omega) (by omega) sf369
    have sf397 : lE A373 (22) (A 19 (n).toNat) (free + 2) (mo2_341) := lE_mv (by omega) (Ag_fr hF378 (by decide)) (fun j h1 h2 => hQ379 25 j rfl (by omega)) (wE_fr hF366 (by decide) (by decide) (by omega) g7) sf370
    have sf398 : lE A373 (22) (A 20 (n).toNat) (free + 2) (mo2_357) := lE_mv (by omega) (Ag_fr hF378 (by decide)) (fun j h1 h2 => hQ379 25 j rfl (by omega)) (wE_fr hF366 (by decide) (by decide) (by omega) g8) p364
    have bmo2_375 : (-2147483648 : Int) ≤ mo2_375 ∧ mo2_375 ≤ 2147483647 := e382 ▸ hW377.1 59
    have blv2_376 : (-2147483648 : Int) ≤ lv2_376 ∧ lv2_376 ≤ 2147483647 := e383 ▸ hW377.1 60
    refine .inr ⟨_, rfl, ?_⟩
    refine jx_rt (v := some (.int (i32 (r374)))) rfl rfl rfl rfl rfl rfl ?_
    exact ⟨_, _, _, mo2_375, lv2_376, rfl, rfl, hW377, hF391, hO392, hN393, by omega, (e382), (e383), by omega, by omega, by omega, by omega, by omega, (lP_mk (m := (A 24 (n).toNat).toNat) hF391 (by decide) ((show A373 23 (n).toNat = A 23 (n).toNat from (congrFun ((hF378.2 23 rfl).trans ((hF359.2 23 rfl).trans ((hF343.2 23 rfl).trans ((hF328.2 23 rfl).trans (((congrFun eA317 23).trans (uA_ne (by decide))).trans (((congrFun eA310 23).trans (uA_ne (by decide))).trans (hFx.2 23 rfl))))))) _)).trans w4) (show A373 24 (n).toNat = A 24 (n).toNat from (congrFun ((hF378.2 24 rfl).trans ((hF359.2 24 rfl).trans ((hF343.2 24 rfl).trans ((hF328.2 24 rfl).trans (((congrFun eA317 24).trans (uA_ne (by decide))).trans (((congrFun eA310 24).trans (uA_ne (by decide))).trans (hFx.2 24 rfl))))))) _)) rfl (by omega) (by omega) sf396 (lS_27 (show A373 15 (n).toNat = A 15 (n).toNat from (congrFun ((hF378.2 15 rfl).trans ((hF359.2 15 rfl).trans ((hF343.2 15 rfl).trans ((hF328.2 15 rfl).trans (((congrFun eA317 15).trans (uA_ne (by decide))).trans (((congrFun eA310 15).trans (uA_ne (by decide))).trans (hFx.2 15 rfl))))))) _)) (by omega) ⟨by rw [(show A373 17 (n).toNat = A 17 (n).toNat from (congrFun ((hF378.2 17 rfl).trans ((hF359.2 17 rfl).trans ((hF343.2 17 rfl).trans ((hF328.2 17 rfl).trans (((congrFun eA317 17).trans (uA_ne (by decide))).trans (((congrFun eA310 17).trans (uA_ne (by decide))).trans (hFx.2 17 rfl))))))) _))]; exact (show A373 9 (A 17 (n).toNat).toNat = free from (k394)), by rw [(show A373 17 (n).toNat = A 17 (n).toNat from (congrFun ((hF378.2 17 rfl).trans ((hF359.2 17 rfl).trans ((hF343.2 17 rfl).trans ((hF328.2 17 rfl).trans (((congrFun eA317 17).trans (uA_ne (by decide))).trans (((congrFun eA310 17).trans (uA_ne (by decide))).trans (hFx.2 17 rfl))))))) _))]; exact (show A373 10 (A 17 (n).toNat).toNat = lv from (k395)), by omega, by rw [(show A373 19 (n).toNat = A 19 (n).toNat from (congrFun ((hF378.2 19 rfl).trans ((hF359.2 19 rfl).trans ((hF343.2 19 rfl).trans ((hF328.2 19 rfl).trans (((congrFun eA317 19).trans (uA_ne (by decide))).trans (((congrFun eA310 19).trans (uA_ne (by decide))).trans (hFx.2 19 rfl))))))) _))]; exact lE_sz (by omega) (by omega) sf397, by rw [(show A373 20 (n).toNat = A 20 (n).toNat from (congrFun ((hF378.2 20 rfl).trans ((hF359.2 20 rfl).trans ((hF343.2 20 rfl).trans ((hF328.2 20 rfl).trans (((congrFun eA317 20).trans (uA_ne (by decide))).trans (((congrFun eA310 20).trans (uA_ne (by decide))).trans (hFx.2 20 rfl))))))) _))]; exact lE_sz (by omega) (by omega) sf398, by rw [(show A373 21 (n).toNat = A 21 (n).toNat from (congrFun ((hF378.2 21 rfl).trans ((hF359.2 21 rfl).trans ((hF343.2 21 rfl).trans ((hF328.2 21 rfl).trans (((congrFun eA317 21).trans (uA_ne (by decide))).trans (((congrFun eA310 21).trans (uA_ne (by decide))).trans (hFx.2 21 rfl))))))) _))]; exact p389⟩)), trivial⟩
  · refine jx_swe (z := 28) (tg := 370) h205 rfl rfl rfl rfl ?_
    obtain ⟨g1, g2, g3, hq⟩ := wS_i28 w8 (by omega)
    refine jx_ld (pc_q := 371) (l_q := L203) (st_q := [.ref 66]) rfl (jl_aloadn gL203_0) ?_
    refine jr_get (pc_q := 374) (i := 42) (v := .ref 92) rfl rfl (by decide) rfl rfl ?_
    refine jx_ld (pc_q := 375) (l_q := L203) (st_q := [.int (i32 (n)), .ref 92]) rfl (jl_iloadn gL203_1) ?_
    refine jx_ld (pc_q := 376) (l_q := L203) (st_q := [.int (i32 (free)), .int (i32 (n)), .ref 92]) rfl (jl_iloadn gL203_3) ?_
    refine jr_st (pc_q := 377) (i := 25) (m := 7000) (z := n) (y := free) rfl (by decide) rfl (by decide) (by omega) (by omega) rfl ?_
    have hW400 : Wk Gx (uA Ax 25 (n).toNat (free)) := Wk_a hWx (show (-2147483648 : Int) ≤ free by omega) (show free ≤ (2147483647 : Int) by omega)
    have hF401 := Fr_a (z := free) (k := 25) (n := (n).toNat) hFx (by decide)
    obtain ⟨A399, eA399⟩ : ∃ q, q = uA Ax 25 (n).toNat (free) := ⟨_, rfl⟩
    rw [← eA399]
    rw [← eA399] at hW400 hF401
    have q402 : A399 25 (n).toNat = free := by rw [eA399]; exact uA_eq
    have hO403 : Fo [25, 26, 27] (lo) (hi) A A399 := eA399 ▸ Fo_a hOx (z := n) (by omega) (by omega) (by omega)
    have hN404 : Fo [9, 10] (s0) (s1) A A399 := eA399 ▸ Fo_n hNx rfl
    have sf405 : lD A399 (s0) ((A 24 (n).toNat).toNat) (fr) (lv) := lD_st eA399 (by omega) (by omega) (by decide) (by omega) iv_6
    refine jx_ld (pc_q := 378) (l_q := L203) (st_q := [.ref 66]) rfl (jl_aloadn gL203_0) ?_
    refine jx_ld (pc_q := 379) (l_q := L203) (st_q := [.int (i32 (free)), .ref 66]) rfl (jl_iloadn gL203_3) ?_
    refine jx_ar (pc_q := 380) (st_q := [.int (i32 (3)), .int (i32 (free)), .ref 66]) rfl rfl rfl rfl ?_
    refine jx_add (pc_q := 381) rfl rfl ?_
    refine jx_vr (pc_q := 384) (as := [.int (i32 ((free + 3)))]) (st := []) rfl rfl rfl rfl ⟨rfl, rfl, Nat.le_of_ble_eq_true rfl⟩ rfl rfl (c_reach (dd := d) (hd := by omega) (hW := hW400) (free := (free + 3)) (mo := mo1) (e_mo := show Gx 59 = mo1 from (ex_mo1))  (h_free := ⟨(by omega), (by omega)⟩)  (p_0 := by omega) (p_1 := by omega)) (fun o V_q hq => ?_)
    obtain ⟨G406, A407, mo2_408, rfl, rfl, hW409, hF410, e411, p412, p413, p414, -⟩ := hq
    have hF416 := Fr_tr hF401 hF410 (Fr_sub (by decide)) (Fr_sub (by decide))
    have hO417 := Fo_f hO403 hF410 (by decide)
    have hN418 := Fo_f hN404 hF410 (by decide)
    have sf419 : lD A407 (s0) ((A 24 (n).toNat).toNat) (fr) (lv) := lD_fo hF410 (by decide) (Fo_f (lo := 0) (hi := 0) Fo_rf hF410 (by decide)) (by omega) (by omega) sf405
    have bmo2_408 : (-2147483648 : Int) ≤ mo2_408 ∧ mo2_408 ≤ 2147483647 := e411 ▸ hW409.1 59
    refine .inl ⟨rfl, ?_⟩
    refine jx_hp (pc_q := 387) (st_q := [.long (i64 (3))]) rfl rfl rfl rfl rfl rfl ?_
    refine jx_ld (pc_q := 389) (l_q := jSto2 L203 5 (.long (i64 (3)))) (st_q := []) rfl rfl ?_
    obtain ⟨L420, eL420⟩ : ∃ q, q = jSto2 L203 5 (.long (i64 (3))) := ⟨_, rfl⟩
    rw [← eL420]
    have gL420_0 : jGet L420 0 = some (.ref 66) := eL420 ▸ jg_ne2 (by decide) (by decide) gL203_0 (.inl rfl)
    have gL420_1 : jGet L420 1 = some (.int (i32 (n))) := eL420 ▸ jg_ne2 (by decide) (by decide) gL203_1 (.inl rfl)
    have gL420_2 : jGet L420 2 = some (.int (i32 (fr))) := eL420 ▸ jg_ne2 (by decide) (by decide) gL203_2 (.inl rfl)
    have gL420_3 : jGet L420 3 = some (.int (i32 (free))) := eL420 ▸ jg_ne2 (by decide) (by decide) gL203_3 (.inl rfl)
    have gL420_4 : jGet L420 4 = some (.int (i32 (0))) := eL420 ▸ jg_ne2 (by decide) (by decide) gL203_4 (.inl rfl)
    have gL420_5 : jGet L420 5 = some (.long (i64 (3))) := eL420 ▸ jg_eq2
    refine jx_ld (pc_q := 390) (l_q := L420) (st_q := [.ref 66]) rfl (jl_aloadn gL420_0) ?_
    refine jr_get (pc_q := 393) (i := 38) (v := .ref 88) rfl rfl (by decide) rfl rfl ?_
    refine jx_ld (pc_q := 394) (l_q := L420) (st_q := [.int (i32 (n)), .ref 88]) rfl (jl_iloadn gL420_1) ?_
    have b421 : (-2147483648 : Int) ≤ A 21 (n).toNat ∧ A 21 (n).toNat ≤ 2147483647 := hW.2 21 _
    refine jr_ldv (pc_q := 395) (i := 21) (m := 7000) (z := n) (y := A 21 (n).toNat) rfl (by decide) rfl (by decide) (by omega) (by omega) rfl (show A407 21 (n).toNat = A 21 (n).toNat from (congrFun ((hF410.2 21 rfl).trans (((congrFun eA399 21).trans (uA_ne (by decide))).trans (hFx.2 21 rfl))) _)) ?_
    refine jx_ld (pc_q := 397) (l_q := jSto1 L420 7 (.int (i32 (A 21 (n).toNat)))) (st_q := []) rfl rfl ?_
    obtain ⟨L422, eL422⟩ : ∃ q, q = jSto1 L420 7 (.int (i32 (A 21 (n).toNat))) := ⟨_, rfl⟩
    rw [← eL422]
    have gL422_0 : jGet L422 0 = some (.ref 66) := eL422 ▸ jg_ne (by decide) gL420_0 rfl
    have gL422_1 : jGet L422 1 = some (.int (i32 (n))) := eL422 ▸ jg_ne (by decide) gL420_1 rfl
    have gL422_2 : jGet L422 2 = some (.int (i32 (fr))) := eL422 ▸ jg_ne (by decide) gL420_2 rfl
    have gL422_3 : jGet L422 3 = some (.int (i32 (free))) := eL422 ▸ jg_ne (by decide) gL420_3 rfl
    have gL422_4 : jGet L422 4 = some (.int (i32 (0))) := eL422 ▸ jg_ne (by decide) gL420_4 rfl
    have gL422_5 : jGet L422 5 = some (.long (i64 (3))) := eL422 ▸ jg_nel (by decide) gL420_5 (by decide)
    have gL422_7 : jGet L422 7 = some (.int (i32 (A 21 (n).toNat))) := eL422 ▸ jg_eq
    exact c_measure_s_at_397 (X := X) (k := k) (hM := hM) (d := d) (Vs := Vs) (sb := sb) (pb := pb) (c0 := c0) (c1 := c1) (G := G) (A := A) (T := T) (n := n) (fr := fr) (lo := lo) (hi := hi) (s0 := s0) (s1 := s1) (mo := mo) (lv := lv) (hd := hd) (hW := hW) (e_mo := e_mo) (e_lv := e_lv) (h_n := h_n) (h_fr := h_fr) (p_0 := p_0) (p_1 := p_1) (p_2 := p_2) (p_3 := p_3) (p_4 := p_4) (p_5 := p_5) (p_6 := p_6) (p_7 := p_7) (p_8 := p_8) (p_9 := p_9) (p_10 := p_10) (p_11 := p_11) (p_12 := p_12) (p_13 := p_13) _ L422 G406 A407 (free) (A 21 (n).toNat) (mo2_408) (free) (n + 1) ((s0 + A 24 (n).toNat)) (3) rfl gL422_0 gL422_1 gL422_2 gL422_3 gL422_7 gL422_5 hW409 hF416 hO417 hN418 ((e411)) ((congrFun (hF410.2 25 rfl) _).trans (q402)) (((hF410.1 60 rfl).trans (fx_60))) (by omega) (by omega) (by omega) (by omega) (by omega) (by omega) (by omega) (by omega) (sf419) (by omega) (by omega) (by omega) (by omega) (by omega) (by omega) (by omega) ((LB_0 hq (by omega) (by omega) (by omega)))
  · refine jx_swe (z := 29) (tg := 432) h205 rfl rfl rfl rfl ?_
    obtain ⟨g1, g2, g3, g4, g5, g6, g7, g8⟩ := wS_i29 w8 (by omega)
    refine jx_ld (pc_q := 433) (l_q := L203) (st_q := [.ref 66]) rfl (jl_aloadn gL203_0) ?_
    refine jr_get (pc_q := 436) (i := 42) (v := .ref 92) rfl rfl (by decide) rfl rfl ?_
    refine jx_ld (pc_q := 437) (l_q := L203) (st_q := [.int (i32 (n)), .ref 92]) rfl (jl_iloadn gL203_1) ?_
    refine jx_ld (pc_q := 438) (l_q := L203) (st_q := [.int (i32 (free)), .int (i32 (n)), .ref 92]) rfl (jl_iloadn gL203_3) ?_
    refine jr_st (pc_q := 439) (i := 25) (m := 7000) (z := n) (y := free) rfl (by decide) rfl (by decide) (by omega) (by omega) rfl ?_
    have hW424 : Wk Gx (uA Ax 25 (n).toNat (free)) := Wk_a hWx (show (-2147483648 : Int) ≤ free by omega) (show free ≤ (2147483647 : Int) by omega)
    have hF425 := Fr_a (z := free) (k := 25) (n := (n).toNat) hFx (by decide)
    obtain ⟨A423, eA423⟩ : ∃ q, q = uA Ax 25 (n).toNat (free) := ⟨_, rfl⟩
    rw [← eA423]
    rw [← eA423] at hW424 hF425
    have q426 : A423 25 (n).toNat = free := by rw [eA423]; exact uA_eq
    have hO427 : Fo [25, 26, 27] (lo) (hi) A A423 := eA423 ▸ Fo_a hOx (z := n) (by omega) (by omega) (by omega)
    have hN428 : Fo [9, 10] (s0) (s1) A A423 := eA423 ▸ Fo_n hNx rfl
    have sf429 : lD A423 (s0) ((A 24 (n).toNat).toNat) (fr) (lv) := lD_st eA423 (by omega) (by omega) (by decide) (by omega) iv_6
    refine jx_ld (pc_q := 440) (l_q := L203) (st_q := [.ref 66]) rfl (jl_aloadn gL203_0) ?_
    refine jx_ld (pc_q := 441) (l_q := L203) (st_q := [.int (i32 (free)), .ref 66]) rfl (jl_iloadn gL203_3) ?_
    refine jx_ar (pc_q := 442) (st_q := [.int (i32 (3)), .int (i32 (free)), .ref 66]) rfl rfl rfl rfl ?_
    refine jx_add (pc_q := 443) rfl rfl ?_
    refine jx_vr (pc_q := 446) (as := [.int (i32 ((free + 3)))]) (st := []) rfl rfl rfl rfl ⟨rfl, rfl, Nat.le_of_ble_eq_true rfl⟩ rfl rfl (c_reach (dd := d) (hd := by omega) (hW := hW424) (free := (free + 3)) (mo := mo1) (e_mo := show Gx 59 = mo1 from (ex_mo1))  (h_free := ⟨(by omega), (by omega)⟩)  (p_0 := by omega) (p_1 := by omega)) (fun o V_q hq => ?_)
    obtain ⟨G430, A431, mo2_432, rfl, rfl, hW433, hF434, e435, p436, p437, p438, -⟩ := hq
    have hF440 := Fr_tr hF425 hF434 (Fr_sub (by decide)) (Fr_sub (by decide))
    have hO441 := Fo_f hO427 hF434 (by decide)
    have hN442 := Fo_f hN428 hF434 (by decide)
    have sf443 : lD A431 (s0) ((A 24 (n).toNat).toNat) (fr) (lv) := lD_fo hF434 (by decide) (Fo_f (lo := 0) (hi := 0) Fo_rf hF434 (by decide)) (by omega) (by omega) sf429
    have bmo2_432 : (-2147483648 : Int) ≤ mo2_432 ∧ mo2_432 ≤ 2147483647 := e435 ▸ hW433.1 59
    refine .inl ⟨rfl, ?_⟩
    refine jx_hp (pc_q := 449) (st_q := [.long (i64 (3))]) rfl rfl rfl rfl rfl rfl ?_
    refine jx_ld (pc_q := 450) (l_q := L203) (st_q := [.ref 66, .long (i64 (3))]) rfl (jl_aloadn gL203_0) ?_
    refine jr_get (pc_q := 453) (i := 37) (v := .ref 87) rfl rfl (by decide) rfl rfl ?_
    refine jx_ld (pc_q := 454) (l_q := L203) (st_q := [.int (i32 (n)), .ref 87, .long (i64 (3))]) rfl (jl_iloadn gL203_1) ?_
    have b444 : (-2147483648 : Int) ≤ A 20 (n).toNat ∧ A 20 (n).toNat ≤ 2147483647 := hW.2 20 _
    refine jr_ldv (pc_q := 455) (i := 20) (m := 7000) (z := n) (y := A 20 (n).toNat) rfl (by decide) rfl (by decide) (by omega) (by omega) rfl (show A431 20 (n).toNat = A 20 (n).toNat from (congrFun ((hF434.2 20 rfl).trans (((congrFun eA423 20).trans (uA_ne (by decide))).trans (hFx.2 20 rfl))) _)) ?_
    refine jx_i2n (pc_q := 456) rfl rfl (Int.le_trans (by decide : (-2147483648 : Int) ≤ -2147483648) b444.1) (Int.le_trans b444.2 (by decide : (2147483647 : Int) ≤ 2147483647)) ?_
    refine jx_ld (pc_q := 457) (l_q := L203) (st_q := [.ref 66, .long (i64 (A 20 (n).toNat)), .long (i64 (3))]) rfl (jl_aloadn gL203_0) ?_
    refine jx_ld (pc_q := 458) (l_q := L203) (st_q := [.ref 66, .ref 66, .long (i64 (A 20 (n).toNat)), .long (i64 (3))]) rfl (jl_aloadn gL203_0) ?_
    refine jr_get (pc_q := 461) (i := 38) (v := .ref 88) rfl rfl (by decide) rfl rfl ?_
    refine jx_ld (pc_q := 462) (l_q := L203) (st_q := [.int (i32 (n)), .ref 88, .ref 66, .long (i64 (A 20 (n).toNat)), .long (i64 (3))]) rfl (jl_iloadn gL203_1) ?_
    have b445 : (-2147483648 : Int) ≤ A 21 (n).toNat ∧ A 21 (n).toNat ≤ 2147483647 := hW.2 21 _
    refine jr_ldv (pc_q := 463) (i := 21) (m := 7000) (z := n) (y := A 21 (n).toNat) rfl (by decide) rfl (by decide) (by omega) (by omega) rfl (show A431 21 (n).toNat = A 21 (n).toNat from (congrFun ((hF434.2 21 rfl).trans (((congrFun eA423 21).trans (uA_ne (by decide))).trans (hFx.2 21 rfl))) _)) ?_
    refine jx_vr (pc_q := 466) (as := [.int (i32 (A 21 (n).toNat))]) (st := [.long (i64 (A 20 (n).toNat)), .long (i64 (3))]) rfl rfl rfl rfl ⟨rfl, rfl, Nat.le_of_ble_eq_true rfl⟩ rfl rfl (c_measureBranch (dd := d) (hM := hM) (hd := by omega) (hW := hW433) (n := A 21 (n).toNat) (lo := n + 1) (hi := hi) (s0 := (s0 + A 24 (n).toNat) + 1) (s1 := s1) (mo := mo2_432) (e_mo := show G430 59 = mo2_432 from (e435)) (lv := lv) (e_lv := show G430 60 = lv from ((hF434.1 60 rfl).trans (fx_60)))  (h_n := ⟨(Int.le_trans (by decide : (-2147483648 : Int) ≤ -2147483648) b445.1), (Int.le_trans b445.2 (by decide : (2147483647 : Int) ≤ 2147483647))⟩)  (p_0 := by omega) (p_1 := by omega) (p_2 := by omega) (p_3 := by omega) (p_4 := by omega) (p_5 := by omega) (p_6 := by omega) (p_7 := by omega) (p_8 := (PS_fr hF440 (by decide) p_8)) (p_9 := (wP_fr hF440 (by decide) (by omega) (by omega) g8)) (p_10 := by omega)) (fun o V_q hq => ?_)
    obtain ⟨G446, A447, r448, mo2_449, lv2_450, zs2_451, zd2_452, rfl, rfl, hW453, hF454, hQ455, hQ456, b457, e458, e459, e460, e461, p462, p463, p464, p465, p466, p467, p468, q469⟩ := hq
    have hF470 := Fr_tr hF440 hF454 (Fr_sub (by decide)) (Fr_sub (by decide))
    have hO471 := Fo_tr hO441 hQ455 (by omega) (by omega)
    have hN472 := Fo_tr hN442 hQ456 (by omega) (by omega)
    have k473 : A447 25 (n).toNat = free := (hQ455 25 _ rfl (by omega)).trans (show A431 25 (n).toNat = free from (congrFun (hF434.2 25 rfl) _).trans (q426))
    have sf474 : lD A447 (s0) ((A 24 (n).toNat).toNat) (fr) (lv) := lD_fo hF454 (by decide) hQ456 (by omega) (by omega) sf443
    have bmo2_449 : (-2147483648 : Int) ≤ mo2_449 ∧ mo2_449 ≤ 2147483647 := e458 ▸ hW453.1 59
    have blv2_450 : (-2147483648 : Int) ≤ lv2_450 ∧ lv2_450 ≤ 2147483647 := e459 ▸ hW453.1 60
    have bzs2_451 : (-2147483648 : Int) ≤ zs2_451 ∧ zs2_451 ≤ 2147483647 := e460 ▸ hW453.2 26 _
    have bzd2_452 : (-2147483648 : Int) ≤ zd2_452 ∧ zd2_452 ≤ 2147483647 := e461 ▸ hW453.2 27 _
    refine .inr ⟨_, rfl, ?_⟩
    rcases q469 with a475 | a476
    · have _q : True := trivial
      have _q : True := trivial
      refine jx_i2n (pc_q := 467) rfl rfl (Int.le_trans (by decide : (-2147483648 : Int) ≤ -2147483648) b457.1) (Int.le_trans b457.2 (by decide : (2147483647 : Int) ≤ 2147483647)) ?_
      have hmul := mul_b (a := A 20 (n).toNat) (b := r448) (by omega) (by omega) (by omega) (by omega)
      refine jx_nmul (pc_q := 468) rfl rfl ?_
      refine jx_nadd (pc_q := 469) rfl rfl ?_
      refine jx_st (pc_q := 472) (as := [.long (i64 ((3 + (A 20 (n).toNat * r448))))]) (st := []) rfl rfl ⟨rfl, Nat.le_of_ble_eq_true rfl⟩ rfl rfl rfl (c_capped (dd := d) (hd := by omega) (v := (3 + (A 20 (n).toNat * r448)))   (h_v := ⟨(by omega), (by omega)⟩)  (p_0 := by omega)) (fun o V_q hq => ?_)
      obtain ⟨r477, rfl, rfl, b478, q479⟩ := hq
      refine .inr ⟨_, rfl, ?_⟩
      rcases q479 with ⟨a480, a481⟩ | ⟨a482, a483⟩
      · have _q : True := trivial
        refine jx_rt (v := some (.int (i32 (r477)))) rfl rfl rfl rfl rfl rfl ?_
        exact ⟨_, _, _, mo2_449, lv2_450, rfl, rfl, hW453, hF470, hO471, hN472, by omega, (e458), (e459), by omega, by omega, by omega, by omega, by omega, (lP_mk (m := (A 24 (n).toNat).toNat) hF470 (by decide) ((show A447 23 (n).toNat = A 23 (n).toNat from (congrFun ((hF454.2 23 rfl).trans ((hF434.2 23 rfl).trans (((congrFun eA423 23).trans (uA_ne (by decide))).trans (hFx.2 23 rfl)))) _)).trans w4) (show A447 24 (n).toNat = A 24 (n).toNat from (congrFun ((hF454.2 24 rfl).trans ((hF434.2 24 rfl).trans (((congrFun eA423 24).trans (uA_ne (by decide))).trans (hFx.2 24 rfl)))) _)) rfl (by omega) (by omega) sf474 (lS_29 (show A447 15 (n).toNat = A 15 (n).toNat from (congrFun ((hF454.2 15 rfl).trans ((hF434.2 15 rfl).trans (((congrFun eA423 15).trans (uA_ne (by decide))).trans (hFx.2 15 rfl)))) _)) (by omega) ⟨(show A447 25 (n).toNat = free from (k473)), by omega, by rw [(show A447 21 (n).toNat = A 21 (n).toNat from (congrFun ((hF454.2 21 rfl).trans ((hF434.2 21 rfl).trans (((congrFun eA423 21).trans (uA_ne (by decide))).trans (hFx.2 21 rfl)))) _))]; exact p468, by rw [(show A447 20 (n).toNat = A 20 (n).toNat from (congrFun ((hF454.2 20 rfl).trans ((hF434.2 20 rfl).trans (((congrFun eA423 20).trans (uA_ne (by decide))).trans (hFx.2 20 rfl)))) _))]; rw [(show A447 21 (n).toNat = A 21 (n).toNat from (congrFun ((hF454.2 21 rfl).trans ((hF434.2 21 rfl).trans (((congrFun eA423 21).trans (uA_ne (by decide))).trans (hFx.2 21 rfl)))) _))]; rw [(show A447 26 (A 21 (n).toNat).toNat = zs2_451 from (e460)), (show A447 27 (A 21 (n).toNat).toNat = zd2_452 from (e461))]; exact fun hD => pf_D (rb := r448) (by omega) (by omega) (by omega) hD⟩)), trivial⟩
      · have _q : True := trivial
        refine jx_rt (v := some (.int (i32 (r477)))) rfl rfl rfl rfl rfl rfl ?_
        exact ⟨_, _, _, mo2_449, lv2_450, rfl, rfl, hW453, hF470, hO471, hN472, by omega, (e458), (e459), by omega, by omega, by omega, by omega, by omega, (lP_mk (m := (A 24 (n).toNat).toNat) hF470 (by decide) ((show A447 23 (n).toNat = A 23 (n).toNat from (congrFun ((hF454.2 23 rfl).trans ((hF434.2 23 rfl).trans (((congrFun eA423 23).trans (uA_ne (by decide))).trans (hFx.2 23 rfl)))) _)).trans w4) (show A447 24 (n).toNat = A 24 (n).toNat from (congrFun ((hF454.2 24 rfl).trans ((hF434.2 24 rfl).trans (((congrFun eA423 24).trans (uA_ne (by decide))).trans (hFx.2 24 rfl)))) _)) rfl (by omega) (by omega) sf474 (lS_29 (show A447 15 (n).toNat = A 15 (n).toNat from (congrFun ((hF454.2 15 rfl).trans ((hF434.2 15 rfl).trans (((congrFun eA423 15).trans (uA_ne (by decide))).trans (hFx.2 15 rfl)))) _)) (by omega) ⟨(show A447 25 (n).toNat = free from (k473)), by omega, by rw [(show A447 21 (n).toNat = A 21 (n).toNat from (congrFun ((hF454.2 21 rfl).trans ((hF434.2 21 rfl).trans (((congrFun eA423 21).trans (uA_ne (by decide))).trans (hFx.2 21 rfl)))) _))]; exact p468, by rw [(show A447 20 (n).toNat = A 20 (n).toNat from (congrFun ((hF454.2 20 rfl).trans ((hF434.2 20 rfl).trans (((congrFun eA423 20).trans (uA_ne (by decide))).trans (hFx.2 20 rfl)))) _))]; rw [(show A447 21 (n).toNat = A 21 (n).toNat from (congrFun ((hF454.2 21 rfl).trans ((hF434.2 21 rfl).trans (((congrFun eA423 21).trans (uA_ne (by decide))).trans (hFx.2 21 rfl)))) _))]; rw [(show A447 26 (A 21 (n).toNat).toNat = zs2_451 from (e460)), (show A447 27 (A 21 (n).toNat).toNat = zd2_452 from (e461))]; exact fun hD => pf_D (rb := r448) (by omega) (by omega) (by omega) hD⟩)), trivial⟩
    · have _q : True := trivial
      have _q : True := trivial
      refine jx_i2n (pc_q := 467) rfl rfl (Int.le_trans (by decide : (-2147483648 : Int) ≤ -2147483648) b457.1) (Int.le_trans b457.2 (by decide : (2147483647 : Int) ≤ 2147483647)) ?_
      have hmul := mul_b (a := A 20 (n).toNat) (b := r448) (by omega) (by omega) (by omega) (by omega)
      refine jx_nmul (pc_q := 468) rfl rfl ?_
      refine jx_nadd (pc_q := 469) rfl rfl ?_
      refine jx_st (pc_q := 472) (as := [.long (i64 ((3 + (A 20 (n).toNat * r448))))]) (st := []) rfl rfl ⟨rfl, Nat.le_of_ble_eq_true rfl⟩ rfl rfl rfl (c_capped (dd := d) (hd := by omega) (v := (3 + (A 20 (n).toNat * r448)))   (h_v := ⟨(by omega), (by omega)⟩)  (p_0 := by omega)) (fun o V_q hq => ?_)
      obtain ⟨r484, rfl, rfl, b485, q486⟩ := hq
      refine .inr ⟨_, rfl, ?_⟩
      rcases q486 with ⟨a487, a488⟩ | ⟨a489, a490⟩
      · have _q : True := trivial
        refine jx_rt (v := some (.int (i32 (r484)))) rfl rfl rfl rfl rfl rfl ?_
        exact ⟨_, _, _, mo2_449, lv2_450, rfl, rfl, hW453, hF470, hO471, hN472, by omega, (e458), (e459), by omega, by omega, by omega, by omega, by omega, (lP_mk (m := (A 24 (n).toNat).toNat) hF470 (by decide) ((show A447 23 (n).toNat = A 23 (n).toNat from (congrFun ((hF454.2 23 rfl).trans ((hF434.2 23 rfl).trans (((congrFun eA423 23).trans (uA_ne (by decide))).trans (hFx.2 23 rfl)))) _)).trans w4) (show A447 24 (n).toNat = A 24 (n).toNat from (congrFun ((hF454.2 24 rfl).trans ((hF434.2 24 rfl).trans (((congrFun eA423 24).trans (uA_ne (by decide))).trans (hFx.2 24 rfl)))) _)) rfl (by omega) (by omega) sf474 (lS_29 (show A447 15 (n).toNat = A 15 (n).toNat from (congrFun ((hF454.2 15 rfl).trans ((hF434.2 15 rfl).trans (((congrFun eA423 15).trans (uA_ne (by decide))).trans (hFx.2 15 rfl)))) _)) (by omega) ⟨(show A447 25 (n).toNat = free from (k473)), by omega, by rw [(show A447 21 (n).toNat = A 21 (n).toNat from (congrFun ((hF454.2 21 rfl).trans ((hF434.2 21 rfl).trans (((congrFun eA423 21).trans (uA_ne (by decide))).trans (hFx.2 21 rfl)))) _))]; exact p468, by rw [(show A447 20 (n).toNat = A 20 (n).toNat from (congrFun ((hF454.2 20 rfl).trans ((hF434.2 20 rfl).trans (((congrFun eA423 20).trans (uA_ne (by decide))).trans (hFx.2 20 rfl)))) _))]; rw [(show A447 21 (n).toNat = A 21 (n).toNat from (congrFun ((hF454.2 21 rfl).trans ((hF434.2 21 rfl).trans (((congrFun eA423 21).trans (uA_ne (by decide))).trans (hFx.2 21 rfl)))) _))]; rw [(show A447 26 (A 21 (n).toNat).toNat = zs2_451 from (e460)), (show A447 27 (A 21 (n).toNat).toNat = zd2_452 from (e461))]; exact fun hD => pf_D (rb := r448) (by omega) (by omega) (by omega) hD⟩)), trivial⟩
      · have _q : True := trivial
        refine jx_rt (v := some (.int (i32 (r484)))) rfl rfl rfl rfl rfl rfl ?_
        exact ⟨_, _, _, mo2_449, lv2_450, rfl, rfl, hW453, hF470, hO471, hN472, by omega, (e458), (e459), by omega, by omega, by omega, by omega, by omega, (lP_mk (m := (A 24 (n).toNat).toNat) hF470 (by decide) ((show A447 23 (n).toNat = A 23 (n).toNat from (congrFun ((hF454.2 23 rfl).trans ((hF434.2 23 rfl).trans (((congrFun eA423 23).trans (uA_ne (by decide))).trans (hFx.2 23 rfl)))) _)).trans w4) (show A447 24 (n).toNat = A 24 (n).toNat from (congrFun ((hF454.2 24 rfl).trans ((hF434.2 24 rfl).trans (((congrFun eA423 24).trans (uA_ne (by decide))).trans (hFx.2 24 rfl)))) _)) rfl (by omega) (by omega) sf474 (lS_29 (show A447 15 (n).toNat = A 15 (n).toNat from (congrFun ((hF454.2 15 rfl).trans ((hF434.2 15 rfl).trans (((congrFun eA423 15).trans (uA_ne (by decide))).trans (hFx.2 15 rfl)))) _)) (by omega) ⟨(show A447 25 (n).toNat = free from (k473)), by omega, by rw [(show A447 21 (n).toNat = A 21 (n).toNat from (congrFun ((hF454.2 21 rfl).trans ((hF434.2 21 rfl).trans (((congrFun eA423 21).trans (uA_ne (by decide))).trans (hFx.2 21 rfl)))) _))]; exact p468, by rw [(show A447 20 (n).toNat = A 20 (n).toNat from (congrFun ((hF454.2 20 rfl).trans ((hF434.2 20 rfl).trans (((congrFun eA423 20).trans (uA_ne (by decide))).trans (hFx.2 20 rfl)))) _))]; rw [(show A447 21 (n).toNat = A 21 (n).toNat from (congrFun ((hF454.2 21 rfl).trans ((hF434.2 21 rfl).trans (((congrFun eA423 21).trans (uA_ne (by decide))).trans (hFx.2 21 rfl)))) _))]; rw [(show A447 26 (A 21 (n).toNat).toNat = zs2_451 from (e460)), (show A447 27 (A 21 (n).toNat).toNat = zd2_452 from (e461))]; exact fun hD => pf_D (rb := r448) (by omega) (by omega) (by omega) hD⟩)), trivial⟩
  · refine jx_swe (z := 30) (tg := 473) h205 rfl rfl rfl rfl ?_
    have hq := wS_i30 w8 (by omega)
    refine jx_ld (pc_q := 474) (l_q := L203) (st_q := [.ref 66]) rfl (jl_aloadn gL203_0) ?_
    refine jr_get (pc_q := 477) (i := 38) (v := .ref 88) rfl rfl (by decide) rfl rfl ?_
    refine jx_ld (pc_q := 478) (l_q := L203) (st_q := [.int (i32 (n)), .ref 88]) rfl (jl_iloadn gL203_1) ?_
    have b491 : (-2147483648 : Int) ≤ A 21 (n).toNat ∧ A 21 (n).toNat ≤ 2147483647 := hW.2 21 _
    refine jr_ldv (pc_q := 479) (i := 21) (m := 7000) (z := n) (y := A 21 (n).toNat) rfl (by decide) rfl (by decide) (by omega) (by omega) rfl (show Ax 21 (n).toNat = A 21 (n).toNat from (congrFun (hFx.2 21 rfl) _)) ?_
    refine jx_ld (pc_q := 481) (l_q := jSto1 L203 5 (.int (i32 (A 21 (n).toNat)))) (st_q := []) rfl rfl ?_
    obtain ⟨L492, eL492⟩ : ∃ q, q = jSto1 L203 5 (.int (i32 (A 21 (n).toNat))) := ⟨_, rfl⟩
    rw [← eL492]
    have gL492_0 : jGet L492 0 = some (.ref 66) := eL492 ▸ jg_ne (by decide) gL203_0 rfl
    have gL492_1 : jGet L492 1 = some (.int (i32 (n))) := eL492 ▸ jg_ne (by decide) gL203_1 rfl
    have gL492_2 : jGet L492 2 = some (.int (i32 (fr))) := eL492 ▸ jg_ne (by decide) gL203_2 rfl
    have gL492_3 : jGet L492 3 = some (.int (i32 (free))) := eL492 ▸ jg_ne (by decide) gL203_3 rfl
    have gL492_4 : jGet L492 4 = some (.int (i32 (0))) := eL492 ▸ jg_ne (by decide) gL203_4 rfl
    have gL492_5 : jGet L492 5 = some (.int (i32 (A 21 (n).toNat))) := eL492 ▸ jg_eq
    exact c_measure_s_at_481 (X := X) (k := k) (hM := hM) (d := d) (Vs := Vs) (sb := sb) (pb := pb) (c0 := c0) (c1 := c1) (G := G) (A := A) (T := T) (n := n) (fr := fr) (lo := lo) (hi := hi) (s0 := s0) (s1 := s1) (mo := mo) (lv := lv) (hd := hd) (hW := hW) (e_mo := e_mo) (e_lv := e_lv) (h_n := h_n) (h_fr := h_fr) (p_0 := p_0) (p_1 := p_1) (p_2 := p_2) (p_3 := p_3) (p_4 := p_4) (p_5 := p_5) (p_6 := p_6) (p_7 := p_7) (p_8 := p_8) (p_9 := p_9) (p_10 := p_10) (p_11 := p_11) (p_12 := p_12) (p_13 := p_13) _ L492 Gx Ax (free) (0) (A 21 (n).toNat) (mo1) (n + 1) ((s0 + A 24 (n).toNat)) rfl gL492_0 gL492_1 gL492_2 gL492_3 gL492_4 gL492_5 hWx hFx hOx hNx ((ex_mo1)) ((fx_60)) (by omega) (by omega) (by omega) (by omega) (by omega) (by omega) (by omega) (by omega) (by omega) (iv_6) (by omega) (by omega) (by omega) (by omega) (by omega) (by omega) (by omega) ((LI_0 hq (by omega)))
  · refine jx_swe (z := 31) (tg := 532) h205 rfl rfl rfl rfl ?_
    obtain ⟨a7, g1, g2, g3, g4⟩ := wS_i31 w8 (by omega)
    refine jx_ld (pc_q := 533) (l_q := L203) (st_q := [.ref 66]) rfl (jl_aloadn gL203_0) ?_
    refine jx_ld (pc_q := 534) (l_q := L203) (st_q := [.ref 66, .ref 66]) rfl (jl_aloadn gL203_0) ?_
    refine jr_get (pc_q := 537) (i := 34) (v := .ref 84) rfl rfl (by decide) rfl rfl ?_
    refine jx_ld (pc_q := 538) (l_q := L203) (st_q := [.int (i32 (n)), .ref 84, .ref 66]) rfl (jl_iloadn gL203_1) ?_
    have b493 : (-2147483648 : Int) ≤ A 17 (n).toNat ∧ A 17 (n).toNat ≤ 2147483647 := hW.2 17 _
    refine jr_ldv (pc_q := 539) (i := 17) (m := 7000) (z := n) (y := A 17 (n).toNat) rfl (by decide) rfl (by decide) (by omega) (by omega) rfl (show Ax 17 (n).toNat = A 17 (n).toNat from (congrFun (hFx.2 17 rfl) _)) ?_
    refine jx_ld (pc_q := 540) (l_q := L203) (st_q := [.int (i32 (free)), .int (i32 (A 17 (n).toNat)), .ref 66]) rfl (jl_iloadn gL203_3) ?_
    refine jx_vr (pc_q := 543) (as := [.int (i32 (A 17 (n).toNat)), .int (i32 (free))]) (st := []) rfl rfl rfl rfl ⟨rfl, rfl, Nat.le_of_ble_eq_true rfl⟩ rfl rfl (ME_all X 22 (dd := d) (hd := by omega) (hW := hWx) (e := A 17 (n).toNat) (free := free) (lo := n + 1) (hi := a7) (mo := mo1) (e_mo := show Gx 59 = mo1 from (ex_mo1))  (h_e := ⟨(Int.le_trans (by decide : (-2147483648 : Int) ≤ -2147483648) b493.1), (Int.le_trans b493.2 (by decide : (2147483647 : Int) ≤ 2147483647))⟩) (h_free := ⟨(Int.le_trans (by decide : (-2147483648 : Int) ≤ -2147483648) rx_free.1), (Int.le_trans rx_free.2 (by decide : (2147483647 : Int) ≤ 2147483647))⟩)  (p_0 := by omega) (p_1 := by omega) (p_2 := by omega) (p_3 := by omega) (p_4 := by omega) (p_5 := (wE_mono (by omega) (by omega) (by omega) (wE_fr hFx (by decide) (by decide) (by omega) g3))) (p_6 := by omega)) (fun o V_q hq => ?_)
    obtain ⟨G494, A495, mo2_496, rfl, rfl, hW497, hF498, hQ499, e500, p501, p502, p503, -⟩ := hq
    have hF505 := Fr_tr hFx hF498 (Fr_sub (by decide)) (Fr_sub (by decide))
    have hO506 := Fo_tr hOx hQ499 (by omega) (by omega)
    have hN507 := Fo_f hNx hF498 (by decide)
    have sf508 : lD A495 (s0) ((A 24 (n).toNat).toNat) (fr) (lv) := lD_fo hF498 (by decide) (Fo_f (lo := 0) (hi := 0) Fo_rf hF498 (by decide)) (by omega) (by omega) iv_6
    have bmo2_496 : (-2147483648 : Int) ≤ mo2_496 ∧ mo2_496 ≤ 2147483647 := e500 ▸ hW497.1 59
    refine .inl ⟨rfl, ?_⟩
    refine jx_ld (pc_q := 544) (l_q := L203) (st_q := [.ref 66]) rfl (jl_aloadn gL203_0) ?_
    refine jx_ld (pc_q := 545) (l_q := L203) (st_q := [.ref 66, .ref 66]) rfl (jl_aloadn gL203_0) ?_
    refine jr_get (pc_q := 548) (i := 38) (v := .ref 88) rfl rfl (by decide) rfl rfl ?_
    refine jx_ld (pc_q := 549) (l_q := L203) (st_q := [.int (i32 (n)), .ref 88, .ref 66]) rfl (jl_iloadn gL203_1) ?_
    have b509 : (-2147483648 : Int) ≤ A 21 (n).toNat ∧ A 21 (n).toNat ≤ 2147483647 := hW.2 21 _
    refine jr_ldv (pc_q := 550) (i := 21) (m := 7000) (z := n) (y := A 21 (n).toNat) rfl (by decide) rfl (by decide) (by omega) (by omega) rfl (show A495 21 (n).toNat = A 21 (n).toNat from (congrFun ((hF498.2 21 rfl).trans (hFx.2 21 rfl)) _)) ?_
    refine jx_ld (pc_q := 551) (l_q := L203) (st_q := [.int (i32 (free)), .int (i32 (A 21 (n).toNat)), .ref 66]) rfl (jl_iloadn gL203_3) ?_
    refine jx_vr (pc_q := 554) (as := [.int (i32 (A 21 (n).toNat)), .int (i32 (free))]) (st := []) rfl rfl rfl rfl ⟨rfl, rfl, Nat.le_of_ble_eq_true rfl⟩ rfl rfl (hM (dd := d) (hd := by omega) (hW := hW497) (n := A 21 (n).toNat) (fr := free) (lo := a7) (hi := hi) (s0 := s0 + A 24 (n).toNat) (s1 := s1) (mo := mo2_496) (e_mo := show G494 59 = mo2_496 from (e500)) (lv := lv) (e_lv := show G494 60 = lv from ((hF498.1 60 rfl).trans (fx_60)))  (h_n := ⟨(Int.le_trans (by decide : (-2147483648 : Int) ≤ -2147483648) b509.1), (Int.le_trans b509.2 (by decide : (2147483647 : Int) ≤ 2147483647))⟩) (h_fr := ⟨(Int.le_trans (by decide : (-2147483648 : Int) ≤ -2147483648) rx_free.1), (Int.le_trans rx_free.2 (by decide : (2147483647 : Int) ≤ 2147483647))⟩)  (p_0 := by omega) (p_1 := by omega) (p_2 := by omega) (p_3 := by omega) (p_4 := by omega) (p_5 := by omega) (p_6 := by omega) (p_7 := by omega) (p_8 := (PS_fr hF505 (by decide) p_8)) (p_9 := by omega) (p_10 := by omega) (p_11 := by omega) (p_12 := (wP_fr hF505 (by decide) (by omega) (by omega) g4)) (p_13 := by omega)) (fun o V_q hq => ?_)
    obtain ⟨G510, A511, r512, mo2_513, lv2_514, rfl, rfl, hW515, hF516, hQ517, hQ518, b519, e520, e521, p522, p523, p524, p525, p526, p527, -⟩ := hq
    have hF529 := Fr_tr hF505 hF516 (Fr_sub (by decide)) (Fr_sub (by decide))
    have hO530 := Fo_tr hO506 hQ517 (by omega) (by omega)
    have hN531 := Fo_tr hN507 hQ518 (by omega) (by omega)
    have sf532 : lD A511 (s0) ((A 24 (n).toNat).toNat) (fr) (lv) := lD_fo hF516 (by decide) hQ518 (by omega) (by omega) sf508
    have sf533 : lE A511 (22) (A 17 (n).toNat) (free) (mo2_496) := lE_mv (by omega) (Ag_fr hF516 (by decide)) (fun j h1 h2 => hQ517 25 j rfl (by omega)) (wE_fr hF505 (by decide) (by decide) (by omega) g3) p503
    have bmo2_513 : (-2147483648 : Int) ≤ mo2_513 ∧ mo2_513 ≤ 2147483647 := e520 ▸ hW515.1 59
    have blv2_514 : (-2147483648 : Int) ≤ lv2_514 ∧ lv2_514 ≤ 2147483647 := e521 ▸ hW515.1 60
    refine .inr ⟨_, rfl, ?_⟩
    refine jx_rt (v := some (.int (i32 (r512)))) rfl rfl rfl rfl rfl rfl ?_
    exact ⟨_, _, _, mo2_513, lv2_514, rfl, rfl, hW515, hF529, hO530, hN531, by omega, (e520), (e521), by omega, by omega, by omega, by omega, by omega, (lP_mk (m := (A 24 (n).toNat).toNat) hF529 (by decide) ((show A511 23 (n).toNat = A 23 (n).toNat from (congrFun ((hF516.2 23 rfl).trans ((hF498.2 23 rfl).trans (hFx.2 23 rfl))) _)).trans w4) (show A511 24 (n).toNat = A 24 (n).toNat from (congrFun ((hF516.2 24 rfl).trans ((hF498.2 24 rfl).trans (hFx.2 24 rfl))) _)) rfl (by omega) (by omega) sf532 (lS_31 (show A511 15 (n).toNat = A 15 (n).toNat from (congrFun ((hF516.2 15 rfl).trans ((hF498.2 15 rfl).trans (hFx.2 15 rfl))) _)) (by omega) ⟨by rw [(show A511 17 (n).toNat = A 17 (n).toNat from (congrFun ((hF516.2 17 rfl).trans ((hF498.2 17 rfl).trans (hFx.2 17 rfl))) _))]; exact lE_sz (by omega) (by omega) sf533, by rw [(show A511 21 (n).toNat = A 21 (n).toNat from (congrFun ((hF516.2 21 rfl).trans ((hF498.2 21 rfl).trans (hFx.2 21 rfl))) _))]; exact p527⟩)), trivial⟩
  · refine jx_swe (z := 32) (tg := 555) h205 rfl rfl rfl rfl ?_
    obtain ⟨g1, g2, l0, ch0, g3, g4⟩ := wS_i32 w8 (by omega)
    refine jx_ld (pc_q := 556) (l_q := L203) (st_q := [.ref 66]) rfl (jl_aloadn gL203_0) ?_
    refine jx_ld (pc_q := 557) (l_q := L203) (st_q := [.int (i32 (n)), .ref 66]) rfl (jl_iloadn gL203_1) ?_
    refine jx_ld (pc_q := 558) (l_q := L203) (st_q := [.int (i32 (free)), .int (i32 (n)), .ref 66]) rfl (jl_iloadn gL203_3) ?_
    have b534 : (-2147483648 : Int) ≤ A 18 (n).toNat ∧ A 18 (n).toNat ≤ 2147483647 := hW.2 18 _
    refine jx_vr (pc_q := 561) (as := [.int (i32 (n)), .int (i32 (free))]) (st := []) rfl rfl rfl rfl ⟨rfl, rfl, Nat.le_of_ble_eq_true rfl⟩ rfl rfl (c_measureAlt (dd := d) (hM := hM) (hd := by omega) (hW := hWx) (n := n) (fr := free) (hi := hi) (s0 := s0 + A 24 (n).toNat) (s1 := s1) (mo := mo1) (e_mo := show Gx 59 = mo1 from (ex_mo1)) (lv := lv) (e_lv := show Gx 60 = lv from (fx_60)) (gb := A 18 (n).toNat) (e_gb := show Ax 18 (n).toNat = A 18 (n).toNat from (congrFun (hFx.2 18 rfl) _))  (h_n := ⟨(Int.le_trans (by decide : (-2147483648 : Int) ≤ -2147483648) h_n.1), (Int.le_trans h_n.2 (by decide : (2147483647 : Int) ≤ 2147483647))⟩) (h_fr := ⟨(Int.le_trans (by decide : (-2147483648 : Int) ≤ -2147483648) rx_free.1), (Int.le_trans rx_free.2 (by decide : (2147483647 : Int) ≤ 2147483647))⟩)  (p_0 := by omega) (p_1 := by omega) (p_2 := by omega) (p_3 := by omega) (p_4 := by omega) (p_5 := by omega) (p_6 := by omega) (p_7 := by omega) (p_8 := by omega) (p_9 := by omega) (p_10 := (PS_fr hFx (by decide) p_8)) (p_11 := by omega) (p_12 := by omega) (p_13 := by omega) (p_14 := by omega) (p_15 := by omega) (p_16 := (tG_fr hFx (by decide) (by omega) (by omega) ⟨l0, ch0, g4⟩)) (p_17 := by omega)) (fun o V_q hq => ?_)
    obtain ⟨G535, A536, r537, mo2_538, lv2_539, rfl, rfl, hW540, hF541, hQ542, hQ543, b544, e545, e546, p547, p548, p549, p550, p551, p552, -⟩ := hq
    have hF554 := Fr_tr hFx hF541 (Fr_sub (by decide)) (Fr_sub (by decide))
    have hO555 := Fo_tr hOx hQ542 (by omega) (by omega)
    have hN556 := Fo_tr hNx hQ543 (by omega) (by omega)
    have sf557 : lD A536 (s0) ((A 24 (n).toNat).toNat) (fr) (lv) := lD_fo hF541 (by decide) hQ543 (by omega) (by omega) iv_6
    have bmo2_538 : (-2147483648 : Int) ≤ mo2_538 ∧ mo2_538 ≤ 2147483647 := e545 ▸ hW540.1 59
    have blv2_539 : (-2147483648 : Int) ≤ lv2_539 ∧ lv2_539 ≤ 2147483647 := e546 ▸ hW540.1 60
    refine .inr ⟨_, rfl, ?_⟩
    refine jx_rt (v := some (.int (i32 (r537)))) rfl rfl rfl rfl rfl rfl ?_
    exact ⟨_, _, _, mo2_538, lv2_539, rfl, rfl, hW540, hF554, hO555, hN556, by omega, (e545), (e546), by omega, by omega, by omega, by omega, by omega, (lP_mk (m := (A 24 (n).toNat).toNat) hF554 (by decide) ((show A536 23 (n).toNat = A 23 (n).toNat from (congrFun ((hF541.2 23 rfl).trans (hFx.2 23 rfl)) _)).trans w4) (show A536 24 (n).toNat = A 24 (n).toNat from (congrFun ((hF541.2 24 rfl).trans (hFx.2 24 rfl)) _)) rfl (by omega) (by omega) sf557 (lS_32 (show A536 15 (n).toNat = A 15 (n).toNat from (congrFun ((hF541.2 15 rfl).trans (hFx.2 15 rfl)) _)) (by omega) p552)), trivial⟩
  · refine jx_swt (tg := 562) (by omega) (by omega) rfl h205 rfl ?_
    refine jx_ar (pc_q := 563) (st_q := [.int (i32 (0))]) rfl rfl rfl rfl ?_
    refine jx_rt (v := some (.int (i32 (0)))) rfl rfl rfl rfl rfl rfl ?_
    exact ⟨_, _, _, mo1, lv, rfl, rfl, hWx, hFx, hOx, hNx, by omega, (ex_mo1), (fx_60), by omega, by omega, by omega, by omega, by omega, (lP_mk (m := (A 24 (n).toNat).toNat) hFx (by decide) ((show Ax 23 (n).toNat = A 23 (n).toNat from (congrFun (hFx.2 23 rfl) _)).trans w4) (show Ax 24 (n).toNat = A 24 (n).toNat from (congrFun (hFx.2 24 rfl) _)) rfl (by omega) (by omega) iv_6 (lS_0 (show Ax 15 (n).toNat = A 15 (n).toNat from (congrFun (hFx.2 15 rfl) _)) (by have := wS_kd w8; omega))), trivial⟩
set_option maxRecDepth 20000 in
set_option maxHeartbeats 4000000 in
theorem c_measure_s_at_10 {X : jX} {k : Nat} (hM : MM X k) {d : Nat} {Vs : Nat → Prop} {sb pb : Int} {c0 c1 : jC} {G : Nat → Int} {A : Nat → Nat → Int} {T : jH} {n fr : Int} {lo hi s0 s1 : Int} {mo lv : Int} (hd : 2 * (k + 1) + 30 ≤ d + 1) (hW : Wk G A) (e_mo : G 59 = mo) (e_lv : G 60 = lv) (h_n : (-2147483648 : Int) ≤ n ∧ n ≤ 2147483647) (h_fr : (-2147483648 : Int) ≤ fr ∧ fr ≤ 2147483647) (p_0 : 0 ≤ lo) (p_1 : hi ≤ 6999) (p_2 : 0 ≤ s0) (p_3 : s1 ≤ sb) (p_4 : sb ≤ 202) (p_5 : 0 ≤ lv) (p_6 : lv + ((k + 1 : Nat) : Int) ≤ 60) (p_7 : mo ≤ 1000000) (p_8 : PS A (pb)) (p_9 : 1 ≤ fr) (p_10 : fr ≤ 70 + 64 * s0 + 20 * lo) (p_11 : fr ≤ mo) (p_12 : wP A sb pb (k + 1) (Vs) (n) (lo) (hi) (s0) (s1)) (p_13 : pb ≤ 24) : ∀ (m : Nat) (L : jL) (Gx : Nat → Int) (Ax : Nat → Nat → Int) (free s mo1 : Int), ((s0 + A 24 (n).toNat) - s).toNat = m → jGet L 0 = some (.ref 66) → jGet L 1 = some (.int (i32 (n))) → jGet L 2 = some (.int (i32 (fr))) → jGet L 3 = some (.int (i32 free)) → jGet L 4 = some (.int (i32 s)) → Wk Gx Ax → Fr [59, 60] [9, 10, 25, 26, 27] G A Gx Ax → Fo [25, 26, 27] (lo) (hi) A Ax → Fo [9, 10] (s0) (s1) A Ax → Gx 59 = mo1 → Gx 60 = lv → ((-2147483648 : Int) ≤ free ∧ free ≤ 2147483647) → ((-2147483648 : Int) ≤ s ∧ s ≤ 2147483647) → (mo ≤ mo1) → (mo1 ≤ 1000000) → (s0 ≤ s) → (s ≤ (s0 + A 24 (n).toNat)) → (free = fr + zS A s0 (s - s0).toNat) → (1 ≤ free) → (free ≤ mo1) → (free ≤ 70 + 64 * s + 20 * lo) → (lD Ax (s0) ((s - s0).toNat) (fr) (lv)) → wj X d jm320 (10, L, [], rV c0 c1 Gx Ax T) (fun o V_q => ∃ (G_q : Nat → Int) (A_q : Nat → Nat → Int) (r : Int) (mo2 : Int) (lv2 : Int), V_q = rV c0 c1 G_q A_q T ∧ o = .inl (some (.int (i32 r))) ∧ Wk G_q A_q ∧ Fr [59, 60] [9, 10, 25, 26, 27] G A G_q A_q ∧ Fo [25, 26, 27] (lo) (hi) A A_q ∧ Fo [9, 10] (s0) (s1) A A_q ∧ ((-2147483648 : Int) ≤ r ∧ r ≤ 2147483647) ∧ G_q 59 = mo2 ∧ G_q 60 = lv2 ∧ (mo ≤ mo2) ∧ (mo2 ≤ 1000000) ∧ (lv2 = lv) ∧ (0 ≤ r) ∧ (r ≤ 1000000) ∧ (lP A_q (k + 1) (n) (fr) (lv) (mo2) (r)) ∧ True) := by
  have hF0 : Fr [59, 60] [9, 10, 25, 26, 27] G A G A := Fr_rf
  have hO0 : Fo [25, 26, 27] (lo) (hi) A A := Fo_rf
  have hN0 : Fo [9, 10] (s0) (s1) A A := Fo_rf
  have b_mo : (-2147483648 : Int) ≤ mo ∧ mo ≤ 2147483647 := e_mo ▸ hW.1 59
  have b_lv : (-2147483648 : Int) ≤ lv ∧ lv ≤ 2147483647 := e_lv ▸ hW.1 60
  have hp12 := p_12
  unfold wP at hp12
  obtain ⟨w1, w2, w3, w4, w5, w6, w7, w8⟩ := hp12
  intro m
  induction m using Nat.strongRecOn with
  | ind m ih10 =>
    intro L Gx Ax free s mo1 hm gL_0 gL_1 gL_2 gL_3 gL_4 hWx hFx hOx hNx ex_mo1 fx_60 rx_free rx_s iv_0 iv_1 iv_2 iv_3 iv_4 iv_5 iv_6 iv_7 iv_8
    have b_mo1 : (-2147483648 : Int) ≤ mo1 ∧ mo1 ≤ 2147483647 := ex_mo1 ▸ hWx.1 59
    have hz1 : s = s0 + A 24 (n).toNat → zS A s0 (A 24 (n).toNat).toNat = zS A s0 (s - s0).toNat := fun h => by rw [show (A 24 (n).toNat).toNat = (s - s0).toNat by omega]
    refine jx_ld (pc_q := 12) (l_q := L) (st_q := [.int (i32 (s))]) rfl (jl_iload gL_4) ?_
    refine jx_ld (pc_q := 13) (l_q := L) (st_q := [.ref 66, .int (i32 (s))]) rfl (jl_aloadn gL_0) ?_
    refine jr_get (pc_q := 16) (i := 40) (v := .ref 90) rfl rfl (by decide) rfl rfl ?_
    refine jx_ld (pc_q := 17) (l_q := L) (st_q := [.int (i32 (n)), .ref 90, .int (i32 (s))]) rfl (jl_iloadn gL_1) ?_
    have b558 : (-2147483648 : Int) ≤ A 23 (n).toNat ∧ A 23 (n).toNat ≤ 2147483647 := hW.2 23 _
    refine jr_ldv (pc_q := 18) (i := 23) (m := 7000) (z := n) (y := A 23 (n).toNat) rfl (by decide) rfl (by decide) (by omega) (by omega) rfl (show Ax 23 (n).toNat = A 23 (n).toNat from (congrFun (hFx.2 23 rfl) _)) ?_
    refine jx_ld (pc_q := 19) (l_q := L) (st_q := [.ref 66, .int (i32 (A 23 (n).toNat)), .int (i32 (s))]) rfl (jl_aloadn gL_0) ?_
    refine jr_get (pc_q := 22) (i := 41) (v := .ref 91) rfl rfl (by decide) rfl rfl ?_
    refine jx_ld (pc_q := 23) (l_q := L) (st_q := [.int (i32 (n)), .ref 91, .int (i32 (A 23 (n).toNat)), .int (i32 (s))]) rfl (jl_iloadn gL_1) ?_
    have b559 : (-2147483648 : Int) ≤ A 24 (n).toNat ∧ A 24 (n).toNat ≤ 2147483647 := hW.2 24 _
    refine jr_ldv (pc_q := 24) (i := 24) (m := 7000) (z := n) (y := A 24 (n).toNat) rfl (by decide) rfl (by decide) (by omega) (by omega) rfl (show Ax 24 (n).toNat = A 24 (n).toNat from (congrFun (hFx.2 24 rfl) _)) ?_
    refine jx_add (pc_q := 25) rfl rfl ?_
    refine jx_icmp_ge (pc_q := 28) (tg := 68) rfl rfl rfl (Int.le_trans (by decide : (-2147483648 : Int) ≤ -2147483648) rx_s.1) (Int.le_trans rx_s.2 (by decide : (2147483647 : Int) ≤ 2147483647)) (by omega) (by omega) (fun h560 => ?_) (fun h560 => ?_)
    · have _q := h560
      exact c_measure_s_at_68 (X := X) (k := k) (hM := hM) (d := d) (Vs := Vs) (sb := sb) (pb := pb) (c0 := c0) (c1 := c1) (G := G) (A := A) (T := T) (n := n) (fr := fr) (lo := lo) (hi := hi) (s0 := s0) (s1 := s1) (mo := mo) (lv := lv) (hd := hd) (hW := hW) (e_mo := e_mo) (e_lv := e_lv) (h_n := h_n) (h_fr := h_fr) (p_0 := p_0) (p_1 := p_1) (p_2 := p_2) (p_3 := p_3) (p_4 := p_4) (p_5 := p_5) (p_6 := p_6) (p_7 := p_7) (p_8 := p_8) (p_9 := p_9) (p_10 := p_10) (p_11 := p_11) (p_12 := p_12) (p_13 := p_13) L Gx Ax (free) (mo1) gL_0 gL_1 gL_2 gL_3 hWx hFx hOx hNx ((ex_mo1)) ((fx_60)) (by omega) (by omega) (by omega) (by omega) (by omega) (by omega) (by omega) ((by rw [show (A 24 (n).toNat).toNat = (s - s0).toNat by omega]; exact iv_8))
    · have _q := h560
      have hw7 := w7 (s).toNat (by omega) (by omega)
      refine jx_ld (pc_q := 29) (l_q := L) (st_q := [.ref 66]) rfl (jl_aloadn gL_0) ?_
      refine jr_get (pc_q := 32) (i := 23) (v := .ref 76) rfl rfl (by decide) rfl rfl ?_
      refine jx_ld (pc_q := 34) (l_q := L) (st_q := [.int (i32 (s)), .ref 76]) rfl (jl_iload gL_4) ?_
      refine jx_ld (pc_q := 35) (l_q := L) (st_q := [.int (i32 (free)), .int (i32 (s)), .ref 76]) rfl (jl_iloadn gL_3) ?_
      refine jr_st (pc_q := 36) (i := 9) (m := 260) (z := s) (y := free) rfl (by decide) rfl (by decide) (by omega) (by omega) rfl ?_
      have hW562 : Wk Gx (uA Ax 9 (s).toNat (free)) := Wk_a hWx (show (-2147483648 : Int) ≤ free by omega) (show free ≤ (2147483647 : Int) by omega)
      have hF563 := Fr_a (z := free) (k := 9) (n := (s).toNat) hFx (by decide)
      obtain ⟨A561, eA561⟩ : ∃ q, q = uA Ax 9 (s).toNat (free) := ⟨_, rfl⟩
      rw [← eA561]
      rw [← eA561] at hW562 hF563
      have q564 : A561 9 (s).toNat = free := by rw [eA561]; exact uA_eq
      have hO565 : Fo [25, 26, 27] (lo) (hi) A A561 := eA561 ▸ Fo_n hOx rfl
      have hN566 : Fo [9, 10] (s0) (s1) A A561 := eA561 ▸ Fo_a hNx (z := s) (by omega) (by omega) (by omega)
      have sf567 : lD A561 (s0) ((s - s0).toNat) (fr) (lv) := lD_st eA561 (by omega) (by omega) (by decide) (by omega) iv_8
      refine jx_ld (pc_q := 37) (l_q := L) (st_q := [.ref 66]) rfl (jl_aloadn gL_0) ?_
      refine jr_get (pc_q := 40) (i := 24) (v := .ref 77) rfl rfl (by decide) rfl rfl ?_
      refine jx_ld (pc_q := 42) (l_q := L) (st_q := [.int (i32 (s)), .ref 77]) rfl (jl_iload gL_4) ?_
      refine jx_ld (pc_q := 43) (l_q := L) (st_q := [.ref 66, .int (i32 (s)), .ref 77]) rfl (jl_aloadn gL_0) ?_
      refine jr_get (pc_q := 46) (i := 60) (v := .int (i32 (lv))) rfl rfl (by decide) (rFv_eq (by decide) (show Gx 60 = lv from (fx_60))) rfl ?_
      refine jr_st (pc_q := 47) (i := 10) (m := 260) (z := s) (y := lv) rfl (by decide) rfl (by decide) (by omega) (by omega) rfl ?_
      have hW569 : Wk Gx (uA A561 10 (s).toNat (lv)) := Wk_a hW562 (show (-2147483648 : Int) ≤ lv by omega) (show lv ≤ (2147483647 : Int) by omega)
      have hF570 := Fr_a (z := lv) (k := 10) (n := (s).toNat) hF563 (by decide)
      obtain ⟨A568, eA568⟩ : ∃ q, q = uA A561 10 (s).toNat (lv) := ⟨_, rfl⟩
      rw [← eA568]
      rw [← eA568] at hW569 hF570
      have q571 : A568 10 (s).toNat = lv := by rw [eA568]; exact uA_eq
      have hO572 : Fo [25, 26, 27] (lo) (hi) A A568 := eA568 ▸ Fo_n hO565 rfl
      have hN573 : Fo [9, 10] (s0) (s1) A A568 := eA568 ▸ Fo_a hN566 (z := s) (by omega) (by omega) (by omega)
      have sf574 : lD A568 (s0) ((s - s0).toNat) (fr) (lv) := lD_st eA568 (by omega) (by omega) (by decide) (by omega) sf567
      refine jx_ld (pc_q := 48) (l_q := L) (st_q := [.int (i32 (free))]) rfl (jl_iloadn gL_3) ?_
      refine jx_ld (pc_q := 49) (l_q := L) (st_q := [.ref 66, .int (i32 (free))]) rfl (jl_aloadn gL_0) ?_
      refine jr_get (pc_q := 52) (i := 22) (v := .ref 75) rfl rfl (by decide) rfl rfl ?_
      refine jx_ld (pc_q := 54) (l_q := L) (st_q := [.int (i32 (s)), .ref 75, .int (i32 (free))]) rfl (jl_iload gL_4) ?_
      have b575 : (-2147483648 : Int) ≤ A 8 (s).toNat ∧ A 8 (s).toNat ≤ 2147483647 := hW.2 8 _
      refine jr_ldv (pc_q := 55) (i := 8) (m := 260) (z := s) (y := A 8 (s).toNat) rfl (by decide) rfl (by decide) (by omega) (by omega) rfl (show A568 8 (s).toNat = A 8 (s).toNat from (congrFun (((congrFun eA568 8).trans (uA_ne (by decide))).trans (((congrFun eA561 8).trans (uA_ne (by decide))).trans (hFx.2 8 rfl))) _)) ?_
      refine jx_add (pc_q := 56) rfl rfl ?_
      refine jx_ld (pc_q := 57) (l_q := jSto1 L 3 (.int (i32 ((free + A 8 (s).toNat))))) (st_q := []) rfl rfl ?_
      obtain ⟨L576, eL576⟩ : ∃ q, q = jSto1 L 3 (.int (i32 ((free + A 8 (s).toNat)))) := ⟨_, rfl⟩
      rw [← eL576]
      have gL576_0 : jGet L576 0 = some (.ref 66) := eL576 ▸ jg_ne (by decide) gL_0 rfl
      have gL576_1 : jGet L576 1 = some (.int (i32 (n))) := eL576 ▸ jg_ne (by decide) gL_1 rfl
      have gL576_2 : jGet L576 2 = some (.int (i32 (fr))) := eL576 ▸ jg_ne (by decide) gL_2 rfl
      have gL576_4 : jGet L576 4 = some (.int (i32 (s))) := eL576 ▸ jg_ne (by decide) gL_4 rfl
      have gL576_3 : jGet L576 3 = some (.int (i32 ((free + A 8 (s).toNat)))) := eL576 ▸ jg_eq
      refine jx_ld (pc_q := 58) (l_q := L576) (st_q := [.ref 66]) rfl (jl_aloadn gL576_0) ?_
      refine jx_ld (pc_q := 59) (l_q := L576) (st_q := [.int (i32 ((free + A 8 (s).toNat))), .ref 66]) rfl (jl_iloadn gL576_3) ?_
      refine jx_vr (pc_q := 62) (as := [.int (i32 ((free + A 8 (s).toNat)))]) (st := []) rfl rfl rfl rfl ⟨rfl, rfl, Nat.le_of_ble_eq_true rfl⟩ rfl rfl (c_reach (dd := d) (hd := by omega) (hW := hW569) (free := (free + A 8 (s).toNat)) (mo := mo1) (e_mo := show Gx 59 = mo1 from (ex_mo1))  (h_free := ⟨(by omega), (by omega)⟩)  (p_0 := by omega) (p_1 := by omega)) (fun o V_q hq => ?_)
      obtain ⟨G577, A578, mo2_579, rfl, rfl, hW580, hF581, e582, p583, p584, p585, -⟩ := hq
      have hF587 := Fr_tr hF570 hF581 (Fr_sub (by decide)) (Fr_sub (by decide))
      have hO588 := Fo_f hO572 hF581 (by decide)
      have hN589 := Fo_f hN573 hF581 (by decide)
      have sf590 : lD A578 (s0) ((s - s0).toNat) (fr) (lv) := lD_fo hF581 (by decide) (Fo_f (lo := 0) (hi := 0) Fo_rf hF581 (by decide)) (by omega) (by omega) sf574
      have bmo2_579 : (-2147483648 : Int) ≤ mo2_579 ∧ mo2_579 ≤ 2147483647 := e582 ▸ hW580.1 59
      refine .inl ⟨rfl, ?_⟩
      have hz2 := zS_st (A := A) (s0 := s0) (s := s) (by omega)
      refine jx_inc (pc_q := 65) (l_q := jSto1 L576 4 (.int (i32 ((s + (1)))))) (x := s) rfl gL576_4 (by decide) rfl rfl ?_
      obtain ⟨L591, eL591⟩ : ∃ q, q = jSto1 L576 4 (.int (i32 ((s + (1))))) := ⟨_, rfl⟩
      rw [← eL591]
      have gL591_0 : jGet L591 0 = some (.ref 66) := eL591 ▸ jg_ne (by decide) gL576_0 rfl
      have gL591_1 : jGet L591 1 = some (.int (i32 (n))) := eL591 ▸ jg_ne (by decide) gL576_1 rfl
      have gL591_2 : jGet L591 2 = some (.int (i32 (fr))) := eL591 ▸ jg_ne (by decide) gL576_2 rfl
      have gL591_3 : jGet L591 3 = some (.int (i32 ((free + A 8 (s).toNat)))) := eL591 ▸ jg_ne (by decide) gL576_3 rfl
      have gL591_4 : jGet L591 4 = some (.int (i32 ((s + (1))))) := eL591 ▸ jg_eq
      refine jx_go (tg := 10) rfl rfl ?_
      exact ih10 _ (by omega) L591 G577 A578 ((free + A 8 (s).toNat)) ((s + (1))) (mo2_579) rfl gL591_0 gL591_1 gL591_2 gL591_3 gL591_4 hW580 hF587 hO588 hN589 ((e582)) (((hF581.1 60 rfl).trans (fx_60))) (by omega) (by omega) (by omega) (by omega) (by omega) (by omega) (by omega) (by omega) (by omega) (by omega) ((lD_nx (A1 := A578) (s := s) (f := free) hF587 (by decide) (by omega) (by omega) (tr_k hF587 (by decide) rfl) sf590 (by omega) (show A578 9 (s).toNat = free from (congrFun ((hF581.2 9 rfl).trans ((congrFun eA568 9).trans (uA_ne (by decide)))) _).trans (q564)) (show A578 10 (s).toNat = lv from (congrFun (hF581.2 10 rfl) _).trans (q571)) (fun _ _ _ _ => rfl)))
set_option maxRecDepth 20000 in
set_option maxHeartbeats 4000000 in
theorem c_measure_s {X : jX} {k : Nat} (hM : MM X k) {dd : Nat} {Vs : Nat → Prop} {sb pb : Int} {c0 c1 : jC} {G : Nat → Int} {A : Nat → Nat → Int} {T : jH} {n fr : Int} {lo hi s0 s1 : Int} {mo lv : Int} (hd : 2 * (k + 1) + 30 ≤ dd) (hW : Wk G A) (e_mo : G 59 = mo) (e_lv : G 60 = lv) (h_n : (-2147483648 : Int) ≤ n ∧ n ≤ 2147483647) (h_fr : (-2147483648 : Int) ≤ fr ∧ fr ≤ 2147483647) (p_0 : 0 ≤ lo) (p_1 : hi ≤ 6999) (p_2 : 0 ≤ s0) (p_3 : s1 ≤ sb) (p_4 : sb ≤ 202) (p_5 : 0 ≤ lv) (p_6 : lv + ((k + 1 : Nat) : Int) ≤ 60) (p_7 : mo ≤ 1000000) (p_8 : PS A (pb)) (p_9 : 1 ≤ fr) (p_10 : fr ≤ 70 + 64 * s0 + 20 * lo) (p_11 : fr ≤ mo) (p_12 : wP A sb pb (k + 1) (Vs) (n) (lo) (hi) (s0) (s1)) (p_13 : pb ≤ 24) : wk X dd 320 [.ref 66, .int (i32 n), .int (i32 fr)] (rV c0 c1 G A T) (fun o V_q => ∃ (G_q : Nat → Int) (A_q : Nat → Nat → Int) (r : Int) (mo2 : Int) (lv2 : Int), V_q = rV c0 c1 G_q A_q T ∧ o = .inl (some (.int (i32 r))) ∧ Wk G_q A_q ∧ Fr [59, 60] [9, 10, 25, 26, 27] G A G_q A_q ∧ Fo [25, 26, 27] (lo) (hi) A A_q ∧ Fo [9, 10] (s0) (s1) A A_q ∧ ((-2147483648 : Int) ≤ r ∧ r ≤ 2147483647) ∧ G_q 59 = mo2 ∧ G_q 60 = lv2 ∧ (mo ≤ mo2) ∧ (mo2 ≤ 1000000) ∧ (lv2 = lv) ∧ (0 ≤ r) ∧ (r ≤ 1000000) ∧ (lP A_q (k + 1) (n) (fr) (lv) (mo2) (r)) ∧ True) := by
  obtain ⟨d, rfl⟩ : ∃ d, dd = d + 1 := ⟨dd - 1, by omega⟩
  refine wk_of (e := jm320) rfl (Nat.le_of_ble_eq_true rfl) ?_
  show wj X d jm320 (0, [(0, .ref 66), (1, .int (i32 (n))), (2, .int (i32 (fr)))], [], rV c0 c1 G A T) _
  have hF0 : Fr [59, 60] [9, 10, 25, 26, 27] G A G A := Fr_rf
  have hO0 : Fo [25, 26, 27] (lo) (hi) A A := Fo_rf
  have hN0 : Fo [9, 10] (s0) (s1) A A := Fo_rf
  have b_mo : (-2147483648 : Int) ≤ mo ∧ mo ≤ 2147483647 := e_mo ▸ hW.1 59
  have b_lv : (-2147483648 : Int) ≤ lv ∧ lv ≤ 2147483647 := e_lv ▸ hW.1 60
  have hp12 := p_12
  unfold wP at hp12
  obtain ⟨w1, w2, w3, w4, w5, w6, w7, w8⟩ := hp12
  refine jx_ld (pc_q := 1) (l_q := [(0, .ref 66), (1, .int (i32 (n))), (2, .int (i32 (fr)))]) (st_q := [.int (i32 (fr))]) rfl (jl_iloadn rfl) ?_
  refine jx_ld (pc_q := 2) (l_q := jSto1 [(0, .ref 66), (1, .int (i32 (n))), (2, .int (i32 (fr)))] 3 (.int (i32 (fr)))) (st_q := []) rfl rfl ?_
  obtain ⟨L592, eL592⟩ : ∃ q, q = jSto1 [(0, .ref 66), (1, .int (i32 (n))), (2, .int (i32 (fr)))] 3 (.int (i32 (fr))) := ⟨_, rfl⟩
  rw [← eL592]
  have gL592_0 : jGet L592 0 = some (.ref 66) := eL592 ▸ jg_ne (by decide) (rfl : jGet [(0, .ref 66), (1, .int (i32 (n))), (2, .int (i32 (fr)))] 0 = some (.ref 66)) rfl
  have gL592_1 : jGet L592 1 = some (.int (i32 (n))) := eL592 ▸ jg_ne (by decide) (rfl : jGet [(0, .ref 66), (1, .int (i32 (n))), (2, .int (i32 (fr)))] 1 = some (.int (i32 (n)))) rfl
  have gL592_2 : jGet L592 2 = some (.int (i32 (fr))) := eL592 ▸ jg_ne (by decide) (rfl : jGet [(0, .ref 66), (1, .int (i32 (n))), (2, .int (i32 (fr)))] 2 = some (.int (i32 (fr)))) rfl
  have gL592_3 : jGet L592 3 = some (.int (i32 (fr))) := eL592 ▸ jg_eq
  refine jx_ld (pc_q := 3) (l_q := L592) (st_q := [.ref 66]) rfl (jl_aloadn gL592_0) ?_
  refine jr_get (pc_q := 6) (i := 40) (v := .ref 90) rfl rfl (by decide) rfl rfl ?_
  refine jx_ld (pc_q := 7) (l_q := L592) (st_q := [.int (i32 (n)), .ref 90]) rfl (jl_iloadn gL592_1) ?_
  have b593 : (-2147483648 : Int) ≤ A 23 (n).toNat ∧ A 23 (n).toNat ≤ 2147483647 := hW.2 23 _
  refine jr_ldv (pc_q := 8) (i := 23) (m := 7000) (z := n) (y := A 23 (n).toNat) rfl (by decide) rfl (by decide) (by omega) (by omega) rfl (show A 23 (n).toNat = A 23 (n).toNat from rfl) ?_
  have hz0 : zS A s0 (A 23 (n).toNat - s0).toNat = 0 := by rw [w4, Int.sub_self]; rfl
  refine jx_ld (pc_q := 10) (l_q := jSto1 L592 4 (.int (i32 (A 23 (n).toNat)))) (st_q := []) rfl rfl ?_
  obtain ⟨L594, eL594⟩ : ∃ q, q = jSto1 L592 4 (.int (i32 (A 23 (n).toNat))) := ⟨_, rfl⟩
  rw [← eL594]
  have gL594_0 : jGet L594 0 = some (.ref 66) := eL594 ▸ jg_ne (by decide) gL592_0 rfl
  have gL594_1 : jGet L594 1 = some (.int (i32 (n))) := eL594 ▸ jg_ne (by decide) gL592_1 rfl
  have gL594_2 : jGet L594 2 = some (.int (i32 (fr))) := eL594 ▸ jg_ne (by decide) gL592_2 rfl
  have gL594_3 : jGet L594 3 = some (.int (i32 (fr))) := eL594 ▸ jg_ne (by decide) gL592_3 rfl
  have gL594_4 : jGet L594 4 = some (.int (i32 (A 23 (n).toNat))) := eL594 ▸ jg_eq
  exact c_measure_s_at_10 (X := X) (k := k) (hM := hM) (d := d) (Vs := Vs) (sb := sb) (pb := pb) (c0 := c0) (c1 := c1) (G := G) (A := A) (T := T) (n := n) (fr := fr) (lo := lo) (hi := hi) (s0 := s0) (s1 := s1) (mo := mo) (lv := lv) (hd := hd) (hW := hW) (e_mo := e_mo) (e_lv := e_lv) (h_n := h_n) (h_fr := h_fr) (p_0 := p_0) (p_1 := p_1) (p_2 := p_2) (p_3 := p_3) (p_4 := p_4) (p_5 := p_5) (p_6 := p_6) (p_7 := p_7) (p_8 := p_8) (p_9 := p_9) (p_10 := p_10) (p_11 := p_11) (p_12 := p_12) (p_13 := p_13) _ L594 G A (fr) (A 23 (n).toNat) (mo) rfl gL594_0 gL594_1 gL594_2 gL594_3 gL594_4 hW hF0 hO0 hN0 ((e_mo)) ((e_lv)) (by omega) (by omega) (by omega) (by omega) (by omega) (by omega) (by omega) (by omega) (by omega) (by omega) ((lD_0 (by omega)))
theorem c_measure_0 {X : jX} {dd : Nat} {Vs : Nat → Prop} {sb pb : Int} {c0 c1 : jC} {G : Nat → Int} {A : Nat → Nat → Int} {T : jH} {n fr : Int} {lo hi s0 s1 : Int} {mo lv : Int} (hd : 2 * 0 + 30 ≤ dd) (hW : Wk G A) (e_mo : G 59 = mo) (e_lv : G 60 = lv) (h_n : (-2147483648 : Int) ≤ n ∧ n ≤ 2147483647) (h_fr : (-2147483648 : Int) ≤ fr ∧ fr ≤ 2147483647) (p_0 : 0 ≤ lo) (p_1 : hi ≤ 6999) (p_2 : 0 ≤ s0) (p_3 : s1 ≤ sb) (p_4 : sb ≤ 202) (p_5 : 0 ≤ lv) (p_6 : lv + ((0 : Nat) : Int) ≤ 60) (p_7 : mo ≤ 1000000) (p_8 : PS A (pb)) (p_9 : 1 ≤ fr) (p_10 : fr ≤ 70 + 64 * s0 + 20 * lo) (p_11 : fr ≤ mo) (p_12 : wP A sb pb (0) (Vs) (n) (lo) (hi) (s0) (s1)) (p_13 : pb ≤ 24) : wk X dd 320 [.ref 66, .int (i32 n), .int (i32 fr)] (rV c0 c1 G A T) (fun o V_q => ∃ (G_q : Nat → Int) (A_q : Nat → Nat → Int) (r : Int) (mo2 : Int) (lv2 : Int), V_q = rV c0 c1 G_q A_q T ∧ o = .inl (some (.int (i32 r))) ∧ Wk G_q A_q ∧ Fr [59, 60] [9, 10, 25, 26, 27] G A G_q A_q ∧ Fo [25, 26, 27] (lo) (hi) A A_q ∧ Fo [9, 10] (s0) (s1) A A_q ∧ ((-2147483648 : Int) ≤ r ∧ r ≤ 2147483647) ∧ G_q 59 = mo2 ∧ G_q 60 = lv2 ∧ (mo ≤ mo2) ∧ (mo2 ≤ 1000000) ∧ (lv2 = lv) ∧ (0 ≤ r) ∧ (r ≤ 1000000) ∧ (lP A_q (0) (n) (fr) (lv) (mo2) (r)) ∧ True) := by
  exact False.elim p_12
theorem MM_all (X : jX) : ∀ k, MM X k
  | 0 => @c_measure_0 X
  | k + 1 => @c_measure_s X k (MM_all X k)
