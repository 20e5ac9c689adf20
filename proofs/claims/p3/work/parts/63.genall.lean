theorem WB_c {lo hi b : Int} (h : WB lo hi b) (h1 : 1 ≤ lo) (h2 : hi ≤ 6999) : b ≤ 1399800000 := by
  unfold WB at h
  omega
theorem FA_00 {A A_q : Nat → Nat → Int} {z v : Int} (e : A_q = uA A 51 z.toNat v) (hz : z = 0) (hv : v = 0) : FA (fun _ => 0) 0 A_q := fun l h1 h2 => by
  subst e hv
  have : l = z := by omega
  subst this
  exact ⟨uA_eq, (by decide : (-1000000 : Int) ≤ 0), (by decide : (0 : Int) ≤ 1000000)⟩
theorem WB_3 {n m a b b0 b1 b2 : Int} (h : WB n m b0) (g : WB a b b1) (k : WB n b b2) (h1 : n ≤ m) (h2 : m ≤ a) (h3 : a ≤ b) : 0 ≤ b0 ∧ 0 ≤ b1 ∧ b0 + b1 ≤ b2 := by
  unfold WB at h g k
  omega

set_option maxRecDepth 20000 in
set_option maxHeartbeats 4000000 in
theorem c_genAll_at_219 {X : jX} {d : Nat} {T0 : Nat → Nat → Int} {Lx Sx : Nat → Int} {Vs : Nat → Prop} {ba bb bu bv : Int} {c0 c1 : jC} {G : Nat → Int} {A : Nat → Nat → Int} {T : jH} {p : Int} {pc : Int} (hd : 2 * 18 + 63 ≤ d + 1) (hW : Wk G A) (e_pc : G 46 = pc) (h_p : (-2147483648 : Int) ≤ p ∧ p ≤ 2147483647) (p_0 : TA T0 A) (p_1 : 0 ≤ p) (p_2 : p ≤ 5) (p_3 : 0 ≤ pc) (p_4 : pc ≤ 24) (p_5 : CW T0 Lx Sx (pc)) (p_6 : MQa T0 T0 (pc) 1) (p_7 : Sx (pc).toNat ≤ 202) (p_8 : Lx (pc).toNat ≤ ba) (p_9 : ba ≤ bb) (p_10 : bb ≤ 6999) (p_11 : bv ≤ 202) (p_12 : 0 ≤ bu) (p_13 : VW T0 Vs (0)) (p_14 : (∀ s, Vs s → T0 7 s ≠ 10)) (p_15 : VB (Vs) (bu)) (p_16 : wP T0 (bv) (pc) 18 Vs (T0 36 (p).toNat) (ba) (bb) (bu) (bv)) (p_17 : lP T0 18 (T0 36 (p).toNat) 1 0 (T0 37 (p).toNat) (T0 38 (p).toNat)) (p_18 : 1 ≤ T0 37 (p).toNat) (p_19 : 0 ≤ T0 38 (p).toNat) (p_20 : T0 37 (p).toNat + T0 38 (p).toNat + 3 ≤ 4000) : ∀ (m : Nat) (L : jL) (Gx : Nat → Int) (Ax : Nat → Nat → Int) (bg k st1 gl : Int), (st1 - k).toNat = m → jGet L 0 = some (.ref 66) → jGet L 1 = some (.int (i32 (p))) → jGet L 2 = some (.int (i32 bg)) → jGet L 3 = some (.int (i32 k)) → Wk Gx Ax → Fr [70, 77, 79, 81, 89] [13, 44, 45, 46, 47, 48, 49, 50, 51, 52, 53, 54, 55, 56, 57, 58] G A Gx Ax → Fo [53] (6000 * p) (6000 * p + 6000) A Ax → Fo [54, 55] (p) (p + 1) A Ax → Gx 70 = st1 → ((-2147483648 : Int) ≤ bg ∧ bg ≤ 2147483647) → ((-2147483648 : Int) ≤ k ∧ k ≤ 2147483647) → (0 ≤ k) → (k ≤ st1) → (st1 ≤ 7000) → (CQ T0 Ax (pc) (p) (bg) (st1) (gl) (k)) → wj X d jm365 (219, L, [], rV c0 c1 Gx Ax T) (fun o V_q => ∃ (G_q : Nat → Int) (A_q : Nat → Nat → Int) (r : Int) (pc2 : Int), V_q = rV c0 c1 G_q A_q T ∧ o = .inl (some (.int (i32 r))) ∧ Wk G_q A_q ∧ Fr [70, 77, 79, 81, 89] [13, 44, 45, 46, 47, 48, 49, 50, 51, 52, 53, 54, 55, 56, 57, 58] G A G_q A_q ∧ Fo [53] (6000 * p) (6000 * p + 6000) A A_q ∧ Fo [54, 55] (p) (p + 1) A A_q ∧ ((0 : Int) ≤ r ∧ r ≤ 1) ∧ G_q 46 = pc2 ∧ (pc2 = pc) ∧ ((r = 1 ∧ (CP T0 A_q (pc) (p))) ∨ (r = 0))) := by
  have hF0 : Fr [70, 77, 79, 81, 89] [13, 44, 45, 46, 47, 48, 49, 50, 51, 52, 53, 54, 55, 56, 57, 58] G A G A := Fr_rf
  have hWc0 : Fo [53] (6000 * p) (6000 * p + 6000) A A := Fo_rf
  have hXc0 : Fo [54, 55] (p) (p + 1) A A := Fo_rf
  have b_pc : (0 : Int) ≤ pc ∧ pc ≤ 24 := e_pc ▸ hW.1 46
  have hWT := TA_w hW p_0
  intro m
  induction m using Nat.strongRecOn with
  | ind m ih219 =>
    intro L Gx Ax bg k st1 gl hm gL_0 gL_1 gL_2 gL_3 hWx hFx hWcx hXcx ex_st1 rx_bg rx_k iv_0 iv_1 iv_2 iv_3
    have b_st1 : (-2147483648 : Int) ≤ st1 ∧ st1 ≤ 2147483647 := ex_st1 ▸ hWx.1 70
    refine jx_ld (pc_q := 220) (l_q := L) (st_q := [.int (i32 (k))]) rfl (jl_iloadn gL_3) ?_
    refine jx_ld (pc_q := 221) (l_q := L) (st_q := [.ref 66, .int (i32 (k))]) rfl (jl_aloadn gL_0) ?_
    refine jr_get (pc_q := 224) (i := 70) (v := .int (i32 (st1))) rfl rfl (by decide) (rFv_eq (by decide) (show Gx 70 = st1 from (ex_st1))) rfl ?_
    refine jx_icmp_ge (pc_q := 227) (tg := 239) rfl rfl rfl (Int.le_trans (by decide : (-2147483648 : Int) ≤ -2147483648) rx_k.1) (Int.le_trans rx_k.2 (by decide : (2147483647 : Int) ≤ 2147483647)) (Int.le_trans (by decide : (-2147483648 : Int) ≤ -2147483648) b_st1.1) (Int.le_trans b_st1.2 (by decide : (2147483647 : Int) ≤ 2147483647)) (fun h1 => ?_) (fun h1 => ?_)
    · have _q := h1
      refine jx_ar (pc_q := 240) (st_q := [.int (i32 (1))]) rfl rfl rfl rfl ?_
      refine jx_rt (v := some (.int (i32 (1)))) rfl rfl rfl rfl rfl (by first | rfl | exact jRet_b (by omega)) ?_
      exact ⟨_, _, _, pc, rfl, rfl, hWx, hFx, hWcx, hXcx, by omega, ((hFx.1 46 rfl).trans (e_pc)), by omega, by first | exact Or.inl (⟨by omega, (CQ_cp iv_3 (by omega) (fun n => ⟨hWx.2 49 n, hWx.2 45 n⟩))⟩) | exact Or.inr ((by omega))⟩
    · have _q := h1
      have h6 := CQ_6 iv_3 (j := k) (by omega) (by omega); have hcq := iv_3; obtain ⟨hc1, hc2, hc3, hc4, hc5, hc6, hc7, hc8, hc9⟩ := hcq
      have _q : True := trivial
      refine jx_ld (pc_q := 228) (l_q := L) (st_q := [.ref 66]) rfl (jl_aloadn gL_0) ?_
      refine jx_ld (pc_q := 229) (l_q := L) (st_q := [.int (i32 (p)), .ref 66]) rfl (jl_iloadn gL_1) ?_
      refine jx_ld (pc_q := 230) (l_q := L) (st_q := [.int (i32 (k)), .int (i32 (p)), .ref 66]) rfl (jl_iloadn gL_3) ?_
      refine jx_vr (pc_q := 233) (as := [.int (i32 (p)), .int (i32 (k))]) (st := []) rfl rfl rfl rfl ⟨rfl, rfl, Nat.le_of_ble_eq_true rfl⟩ rfl rfl (c_write (dd := d) (hd := by omega) (hW := hWx) (p := p) (k := k) (st := st1) (e_st := show Gx 70 = st1 from (ex_st1))  (h_p := ⟨(Int.le_trans (by decide : (-2147483648 : Int) ≤ -2147483648) h_p.1), (Int.le_trans h_p.2 (by decide : (2147483647 : Int) ≤ 2147483647))⟩) (h_k := ⟨(Int.le_trans (by decide : (-2147483648 : Int) ≤ -2147483648) rx_k.1), (Int.le_trans rx_k.2 (by decide : (2147483647 : Int) ≤ 2147483647))⟩)  (p_0 := by omega) (p_1 := by omega) (p_2 := hc3) (p_3 := (AB_of hc2 hc3 (by omega))) (p_4 := (gM_lr hc1)) (p_5 := by omega) (p_6 := by omega) (p_7 := by omega) (p_8 := by omega) (p_9 := h6.2)) (fun o V_q hq => ?_)
      obtain ⟨G2, A3, rfl, rfl, hW4, hF5, hQ6, p7, -⟩ := hq
      have hF9 := Fr_tr hFx hF5 (Fr_sub (by decide)) (Fr_sub (by decide))
      have hWc10 := Fo_tr hWcx hQ6 (by omega) (by omega)
      have hXc11 := Fo_f hXcx hF5 (by decide)
      refine .inl ⟨rfl, ?_⟩
      have hcqn := CQ_nx (k_q := k + (1)) hF5 (by decide) hQ6 rfl (by omega) (by omega) rfl (by omega) (by omega) p7 iv_3
      refine jx_inc (pc_q := 236) (l_q := jSto1 L 3 (.int (i32 ((k + (1)))))) (x := k) rfl gL_3 (by decide) rfl rfl ?_
      obtain ⟨L12, eL12⟩ : ∃ q, q = jSto1 L 3 (.int (i32 ((k + (1))))) := ⟨_, rfl⟩
      rw [← eL12]
      have gL12_0 : jGet L12 0 = some (.ref 66) := eL12 ▸ jg_ne (by decide) gL_0 rfl
      have gL12_1 : jGet L12 1 = some (.int (i32 (p))) := eL12 ▸ jg_ne (by decide) gL_1 rfl
      have gL12_2 : jGet L12 2 = some (.int (i32 (bg))) := eL12 ▸ jg_ne (by decide) gL_2 rfl
      have gL12_3 : jGet L12 3 = some (.int (i32 ((k + (1))))) := eL12 ▸ jg_eq
      refine jx_go (tg := 219) rfl rfl ?_
      exact ih219 _ (by omega) L12 G2 A3 (bg) ((k + (1))) (st1) (gl) rfl gL12_0 gL12_1 gL12_2 gL12_3 hW4 hF9 hWc10 hXc11 (((hF5.1 70 rfl).trans (ex_st1))) (by omega) (by omega) (by omega) (by omega) (by omega) (hcqn)
set_option maxRecDepth 20000 in
set_option maxHeartbeats 4000000 in
theorem c_genAll_at_169 {X : jX} {d : Nat} {T0 : Nat → Nat → Int} {Lx Sx : Nat → Int} {Vs : Nat → Prop} {ba bb bu bv : Int} {c0 c1 : jC} {G : Nat → Int} {A : Nat → Nat → Int} {T : jH} {p : Int} {pc : Int} (hd : 2 * 18 + 63 ≤ d + 1) (hW : Wk G A) (e_pc : G 46 = pc) (h_p : (-2147483648 : Int) ≤ p ∧ p ≤ 2147483647) (p_0 : TA T0 A) (p_1 : 0 ≤ p) (p_2 : p ≤ 5) (p_3 : 0 ≤ pc) (p_4 : pc ≤ 24) (p_5 : CW T0 Lx Sx (pc)) (p_6 : MQa T0 T0 (pc) 1) (p_7 : Sx (pc).toNat ≤ 202) (p_8 : Lx (pc).toNat ≤ ba) (p_9 : ba ≤ bb) (p_10 : bb ≤ 6999) (p_11 : bv ≤ 202) (p_12 : 0 ≤ bu) (p_13 : VW T0 Vs (0)) (p_14 : (∀ s, Vs s → T0 7 s ≠ 10)) (p_15 : VB (Vs) (bu)) (p_16 : wP T0 (bv) (pc) 18 Vs (T0 36 (p).toNat) (ba) (bb) (bu) (bv)) (p_17 : lP T0 18 (T0 36 (p).toNat) 1 0 (T0 37 (p).toNat) (T0 38 (p).toNat)) (p_18 : 1 ≤ T0 37 (p).toNat) (p_19 : 0 ≤ T0 38 (p).toNat) (p_20 : T0 37 (p).toNat + T0 38 (p).toNat + 3 ≤ 4000) : ∀ (L : jL) (Gx : Nat → Int) (Ax : Nat → Nat → Int) (bg st1 lb1 : Int), jGet L 0 = some (.ref 66) → jGet L 1 = some (.int (i32 (p))) → jGet L 2 = some (.int (i32 bg)) → Wk Gx Ax → Fr [70, 77, 79, 81, 89] [13, 44, 45, 46, 47, 48, 49, 50, 51, 52, 53, 54, 55, 56, 57, 58] G A Gx Ax → Fo [53] (6000 * p) (6000 * p + 6000) A Ax → Fo [54, 55] (p) (p + 1) A Ax → Gx 70 = st1 → Gx 77 = lb1 → ((-2147483648 : Int) ≤ bg ∧ bg ≤ 2147483647) → (0 ≤ bg) → (bg ≤ st1) → (st1 ≤ 7000) → (gM T0 Ax (pc) (p) (bg) (st1) (lb1)) → wj X d jm365 (169, L, [], rV c0 c1 Gx Ax T) (fun o V_q => ∃ (G_q : Nat → Int) (A_q : Nat → Nat → Int) (r : Int) (pc2 : Int), V_q = rV c0 c1 G_q A_q T ∧ o = .inl (some (.int (i32 r))) ∧ Wk G_q A_q ∧ Fr [70, 77, 79, 81, 89] [13, 44, 45, 46, 47, 48, 49, 50, 51, 52, 53, 54, 55, 56, 57, 58] G A G_q A_q ∧ Fo [53] (6000 * p) (6000 * p + 6000) A A_q ∧ Fo [54, 55] (p) (p + 1) A A_q ∧ ((0 : Int) ≤ r ∧ r ≤ 1) ∧ G_q 46 = pc2 ∧ (pc2 = pc) ∧ ((r = 1 ∧ (CP T0 A_q (pc) (p))) ∨ (r = 0))) := by
  have hF0 : Fr [70, 77, 79, 81, 89] [13, 44, 45, 46, 47, 48, 49, 50, 51, 52, 53, 54, 55, 56, 57, 58] G A G A := Fr_rf
  have hWc0 : Fo [53] (6000 * p) (6000 * p + 6000) A A := Fo_rf
  have hXc0 : Fo [54, 55] (p) (p + 1) A A := Fo_rf
  have b_pc : (0 : Int) ≤ pc ∧ pc ≤ 24 := e_pc ▸ hW.1 46
  have hWT := TA_w hW p_0
  intro L Gx Ax bg st1 lb1 gL_0 gL_1 gL_2 hWx hFx hWcx hXcx ex_st1 ex_lb1 rx_bg iv_0 iv_1 iv_2 iv_3
  have b_st1 : (-2147483648 : Int) ≤ st1 ∧ st1 ≤ 2147483647 := ex_st1 ▸ hWx.1 70
  have b_lb1 : (-2147483648 : Int) ≤ lb1 ∧ lb1 ≤ 2147483647 := ex_lb1 ▸ hWx.1 77
  refine jx_ld (pc_q := 170) (l_q := L) (st_q := [.ref 66]) rfl (jl_aloadn gL_0) ?_
  refine jx_vr (pc_q := 173) (as := []) (st := []) rfl rfl rfl rfl ⟨rfl, rfl, Nat.le_of_ble_eq_true rfl⟩ rfl rfl (c_findLengths (dd := d) (hd := by omega) (hW := hWx)  (st := st1) (e_st := show Gx 70 = st1 from (ex_st1))    (p_0 := by omega) (p_1 := by omega) (p_2 := (gM_lr iv_3))) (fun o V_q hq => ?_)
  obtain ⟨G13, A14, st2_15, rfl, rfl, hW16, hF17, e18, p19, p20, p21, p22, -⟩ := hq
  have hF24 := Fr_tr hFx hF17 (Fr_sub (by decide)) (Fr_sub (by decide))
  have hWc25 := Fo_f hWcx hF17 (by decide)
  have hXc26 := Fo_f hXcx hF17 (by decide)
  have bst2_15 : (-2147483648 : Int) ≤ st2_15 ∧ st2_15 ≤ 2147483647 := e18 ▸ hW16.1 70
  refine .inl ⟨rfl, ?_⟩
  have hst3 : G13 70 = st1 := (show G13 70 = st2_15 from (e18)).trans (by omega); have hgm3 := gM_fr (hF17.2 44 rfl) (hF17.2 45 rfl) (hF17.2 46 rfl) (hF17.2 47 rfl) (hF17.2 50 rfl) (by omega) iv_3; have hab3 := AB_of p22.1 p20 (by omega); have hq9 := hab3 (st1).toNat (by omega); have hq8 := hab3 (bg).toNat (by omega)
  refine jx_ld (pc_q := 174) (l_q := L) (st_q := [.ref 66]) rfl (jl_aloadn gL_0) ?_
  refine jr_get (pc_q := 177) (i := 76) (v := .ref 116) rfl rfl (by decide) rfl rfl ?_
  refine jx_ld (pc_q := 178) (l_q := L) (st_q := [.ref 66, .ref 116]) rfl (jl_aloadn gL_0) ?_
  refine jr_get (pc_q := 181) (i := 70) (v := .int (i32 (st1))) rfl rfl (by decide) (rFv_eq (by decide) (show G13 70 = st1 from (hst3))) rfl ?_
  have b27 : (-2147483648 : Int) ≤ A14 49 (st1).toNat ∧ A14 49 (st1).toNat ≤ 2147483647 := hW16.2 49 _
  refine jr_ldv (pc_q := 182) (i := 49) (m := 7001) (z := st1) (y := A14 49 (st1).toNat) rfl (by decide) rfl (by decide) (by omega) (by omega) rfl (show A14 49 (st1).toNat = A14 49 (st1).toNat from rfl) ?_
  refine jx_ar (pc_q := 185) (st_q := [.int (i32 (6000)), .int (i32 (A14 49 (st1).toNat))]) rfl rfl rfl rfl ?_
  refine jx_icmp_le (pc_q := 188) (tg := 190) rfl rfl rfl (Int.le_trans (by decide : (-2147483648 : Int) ≤ -2147483648) b27.1) (Int.le_trans b27.2 (by decide : (2147483647 : Int) ≤ 2147483647)) (by decide) (by decide) (fun h28 => ?_) (fun h28 => ?_)
  · have _q := h28
    refine jx_ld (pc_q := 191) (l_q := L) (st_q := [.ref 66]) rfl (jl_aloadn gL_0) ?_
    refine jr_get (pc_q := 194) (i := 84) (v := .ref 121) rfl rfl (by decide) rfl rfl ?_
    refine jx_ld (pc_q := 195) (l_q := L) (st_q := [.int (i32 (p)), .ref 121]) rfl (jl_iloadn gL_1) ?_
    refine jx_ld (pc_q := 196) (l_q := L) (st_q := [.ref 66, .int (i32 (p)), .ref 121]) rfl (jl_aloadn gL_0) ?_
    refine jr_get (pc_q := 199) (i := 76) (v := .ref 116) rfl rfl (by decide) rfl rfl ?_
    refine jx_ld (pc_q := 200) (l_q := L) (st_q := [.ref 66, .ref 116, .int (i32 (p)), .ref 121]) rfl (jl_aloadn gL_0) ?_
    refine jr_get (pc_q := 203) (i := 70) (v := .int (i32 (st1))) rfl rfl (by decide) (rFv_eq (by decide) (show G13 70 = st1 from (hst3))) rfl ?_
    refine jr_ldv (pc_q := 204) (i := 49) (m := 7001) (z := st1) (y := A14 49 (st1).toNat) rfl (by decide) rfl (by decide) (by omega) (by omega) rfl (show A14 49 (st1).toNat = A14 49 (st1).toNat from rfl) ?_
    refine jr_st (pc_q := 205) (i := 54) (m := 6) (z := p) (y := A14 49 (st1).toNat) rfl (by decide) rfl (by decide) (by omega) (by omega) rfl ?_
    have hW30 : Wk G13 (uA A14 54 (p).toNat (A14 49 (st1).toNat)) := Wk_a hW16 (show (-2147483648 : Int) ≤ A14 49 (st1).toNat by omega) (show A14 49 (st1).toNat ≤ (2147483647 : Int) by omega)
    have hF31 := Fr_a (z := A14 49 (st1).toNat) (k := 54) (n := (p).toNat) hF24 (by decide)
    obtain ⟨A29, eA29⟩ : ∃ q, q = uA A14 54 (p).toNat (A14 49 (st1).toNat) := ⟨_, rfl⟩
    rw [← eA29]
    rw [← eA29] at hW30 hF31
    have q32 : A29 54 (p).toNat = A14 49 (st1).toNat := by rw [eA29]; exact uA_eq
    have hWc33 : Fo [53] (6000 * p) (6000 * p + 6000) A A29 := eA29 ▸ Fo_n hWc25 rfl
    have hXc34 : Fo [54, 55] (p) (p + 1) A A29 := eA29 ▸ Fo_a hXc26 (z := p) (by omega) (by omega) (by omega)
    refine jx_ld (pc_q := 206) (l_q := L) (st_q := [.ref 66]) rfl (jl_aloadn gL_0) ?_
    refine jr_get (pc_q := 209) (i := 85) (v := .ref 122) rfl rfl (by decide) rfl rfl ?_
    refine jx_ld (pc_q := 210) (l_q := L) (st_q := [.int (i32 (p)), .ref 122]) rfl (jl_iloadn gL_1) ?_
    refine jx_ld (pc_q := 211) (l_q := L) (st_q := [.ref 66, .int (i32 (p)), .ref 122]) rfl (jl_aloadn gL_0) ?_
    refine jr_get (pc_q := 214) (i := 76) (v := .ref 116) rfl rfl (by decide) rfl rfl ?_
    refine jx_ld (pc_q := 215) (l_q := L) (st_q := [.int (i32 (bg)), .ref 116, .int (i32 (p)), .ref 122]) rfl (jl_iloadn gL_2) ?_
    have b35 : (-2147483648 : Int) ≤ A14 49 (bg).toNat ∧ A14 49 (bg).toNat ≤ 2147483647 := hW16.2 49 _
    refine jr_ldv (pc_q := 216) (i := 49) (m := 7001) (z := bg) (y := A14 49 (bg).toNat) rfl (by decide) rfl (by decide) (by omega) (by omega) rfl (show A29 49 (bg).toNat = A14 49 (bg).toNat from (congrFun ((congrFun eA29 49).trans (uA_ne (by decide))) _)) ?_
    refine jr_st (pc_q := 217) (i := 55) (m := 6) (z := p) (y := A14 49 (bg).toNat) rfl (by decide) rfl (by decide) (by omega) (by omega) rfl ?_
    have hW37 : Wk G13 (uA A29 55 (p).toNat (A14 49 (bg).toNat)) := Wk_a hW30 (show (-2147483648 : Int) ≤ A14 49 (bg).toNat by omega) (show A14 49 (bg).toNat ≤ (2147483647 : Int) by omega)
    have hF38 := Fr_a (z := A14 49 (bg).toNat) (k := 55) (n := (p).toNat) hF31 (by decide)
    obtain ⟨A36, eA36⟩ : ∃ q, q = uA A29 55 (p).toNat (A14 49 (bg).toNat) := ⟨_, rfl⟩
    rw [← eA36]
    rw [← eA36] at hW37 hF38
    have q39 : A36 55 (p).toNat = A14 49 (bg).toNat := by rw [eA36]; exact uA_eq
    have hWc40 : Fo [53] (6000 * p) (6000 * p + 6000) A A36 := eA36 ▸ Fo_n hWc33 rfl
    have hXc41 : Fo [54, 55] (p) (p + 1) A A36 := eA36 ▸ Fo_a hXc34 (z := p) (by omega) (by omega) (by omega)
    refine jx_ar (pc_q := 218) (st_q := [.int (i32 (0))]) rfl rfl rfl rfl ?_
    have _q : True := trivial
    refine jx_ld (pc_q := 219) (l_q := jSto1 L 3 (.int (i32 (0)))) (st_q := []) rfl rfl ?_
    obtain ⟨L42, eL42⟩ : ∃ q, q = jSto1 L 3 (.int (i32 (0))) := ⟨_, rfl⟩
    rw [← eL42]
    have gL42_0 : jGet L42 0 = some (.ref 66) := eL42 ▸ jg_ne (by decide) gL_0 rfl
    have gL42_1 : jGet L42 1 = some (.int (i32 (p))) := eL42 ▸ jg_ne (by decide) gL_1 rfl
    have gL42_2 : jGet L42 2 = some (.int (i32 (bg))) := eL42 ▸ jg_ne (by decide) gL_2 rfl
    have gL42_3 : jGet L42 3 = some (.int (i32 (0))) := eL42 ▸ jg_eq
    exact c_genAll_at_219 (X := X) (d := d) (T0 := T0) (Lx := Lx) (Sx := Sx) (Vs := Vs) (ba := ba) (bb := bb) (bu := bu) (bv := bv) (c0 := c0) (c1 := c1) (G := G) (A := A) (T := T) (p := p) (pc := pc) (hd := hd) (hW := hW) (e_pc := e_pc) (h_p := h_p) (p_0 := p_0) (p_1 := p_1) (p_2 := p_2) (p_3 := p_3) (p_4 := p_4) (p_5 := p_5) (p_6 := p_6) (p_7 := p_7) (p_8 := p_8) (p_9 := p_9) (p_10 := p_10) (p_11 := p_11) (p_12 := p_12) (p_13 := p_13) (p_14 := p_14) (p_15 := p_15) (p_16 := p_16) (p_17 := p_17) (p_18 := p_18) (p_19 := p_19) (p_20 := p_20) _ L42 G13 A36 (bg) (0) (st1) (lb1) rfl gL42_0 gL42_1 gL42_2 gL42_3 hW37 hF38 hWc40 hXc41 ((hst3)) (by omega) (by omega) (by omega) (by omega) (by omega) ((CQ_0 (A1 := A14) (by omega) (((congrFun eA36 44).trans (uA_ne (by decide))).trans ((congrFun eA29 44).trans (uA_ne (by decide)))) (((congrFun eA36 45).trans (uA_ne (by decide))).trans ((congrFun eA29 45).trans (uA_ne (by decide)))) (((congrFun eA36 46).trans (uA_ne (by decide))).trans ((congrFun eA29 46).trans (uA_ne (by decide)))) (((congrFun eA36 47).trans (uA_ne (by decide))).trans ((congrFun eA29 47).trans (uA_ne (by decide)))) (((congrFun eA36 48).trans (uA_ne (by decide))).trans ((congrFun eA29 48).trans (uA_ne (by decide)))) (((congrFun eA36 49).trans (uA_ne (by decide))).trans ((congrFun eA29 49).trans (uA_ne (by decide)))) (((congrFun eA36 50).trans (uA_ne (by decide))).trans ((congrFun eA29 50).trans (uA_ne (by decide)))) hgm3 p20 p21 p22 (by rw [show A36 49 (st1).toNat = A14 49 (st1).toNat from (congrFun (((congrFun eA36 49).trans (uA_ne (by decide))).trans ((congrFun eA29 49).trans (uA_ne (by decide)))) _)]; omega) ((show A36 54 (p).toNat = A14 49 (st1).toNat from (congrFun ((congrFun eA36 54).trans (uA_ne (by decide))) _).trans (q32)).trans ((by omega : A14 49 (st1).toNat = A14 49 (st1).toNat).trans (show A36 49 (st1).toNat = A14 49 (st1).toNat from (congrFun (((congrFun eA36 49).trans (uA_ne (by decide))).trans ((congrFun eA29 49).trans (uA_ne (by decide)))) _)).symm)) ((show A36 55 (p).toNat = A14 49 (bg).toNat from (q39)).trans ((by omega : A14 49 (bg).toNat = A14 49 (bg).toNat).trans (show A36 49 (bg).toNat = A14 49 (bg).toNat from (congrFun (((congrFun eA36 49).trans (uA_ne (by decide))).trans ((congrFun eA29 49).trans (uA_ne (by decide)))) _)).symm)) (by omega)))
  · have _q := h28
    refine jx_ar (pc_q := 189) (st_q := [.int (i32 (0))]) rfl rfl rfl rfl ?_
    refine jx_rt (v := some (.int (i32 (0)))) rfl rfl rfl rfl rfl (by first | rfl | exact jRet_b (by omega)) ?_
    exact ⟨_, _, _, pc, rfl, rfl, hW16, hF24, hWc25, hXc26, by omega, ((hF17.1 46 rfl).trans ((hFx.1 46 rfl).trans (e_pc))), by omega, by first | exact Or.inl (⟨by omega, (CQ_cp iv_3 (by omega) (fun n => ⟨hW16.2 49 n, hW16.2 45 n⟩))⟩) | exact Or.inr ((by omega))⟩
set_option maxRecDepth 20000 in
set_option maxHeartbeats 4000000 in
theorem c_genAll_at_60 {X : jX} {d : Nat} {T0 : Nat → Nat → Int} {Lx Sx : Nat → Int} {Vs : Nat → Prop} {ba bb bu bv : Int} {c0 c1 : jC} {G : Nat → Int} {A : Nat → Nat → Int} {T : jH} {p : Int} {pc : Int} (hd : 2 * 18 + 63 ≤ d + 1) (hW : Wk G A) (e_pc : G 46 = pc) (h_p : (-2147483648 : Int) ≤ p ∧ p ≤ 2147483647) (p_0 : TA T0 A) (p_1 : 0 ≤ p) (p_2 : p ≤ 5) (p_3 : 0 ≤ pc) (p_4 : pc ≤ 24) (p_5 : CW T0 Lx Sx (pc)) (p_6 : MQa T0 T0 (pc) 1) (p_7 : Sx (pc).toNat ≤ 202) (p_8 : Lx (pc).toNat ≤ ba) (p_9 : ba ≤ bb) (p_10 : bb ≤ 6999) (p_11 : bv ≤ 202) (p_12 : 0 ≤ bu) (p_13 : VW T0 Vs (0)) (p_14 : (∀ s, Vs s → T0 7 s ≠ 10)) (p_15 : VB (Vs) (bu)) (p_16 : wP T0 (bv) (pc) 18 Vs (T0 36 (p).toNat) (ba) (bb) (bu) (bv)) (p_17 : lP T0 18 (T0 36 (p).toNat) 1 0 (T0 37 (p).toNat) (T0 38 (p).toNat)) (p_18 : 1 ≤ T0 37 (p).toNat) (p_19 : 0 ≤ T0 38 (p).toNat) (p_20 : T0 37 (p).toNat + T0 38 (p).toNat + 3 ≤ 4000) : ∀ (m : Nat) (L : jL) (Gx : Nat → Int) (Ax : Nat → Nat → Int) (qq st1 lg1 lb1 fw1 gm bs : Int), (pc - qq).toNat = m → jGet L 0 = some (.ref 66) → jGet L 1 = some (.int (i32 (p))) → jGet L 2 = some (.int (i32 qq)) → Wk Gx Ax → Fr [70, 77, 79, 81, 89] [13, 44, 45, 46, 47, 48, 49, 50, 51, 52, 53, 54, 55, 56, 57, 58] G A Gx Ax → Fo [53] (6000 * p) (6000 * p + 6000) A Ax → Fo [54, 55] (p) (p + 1) A Ax → Gx 70 = st1 → Gx 79 = lg1 → Gx 77 = lb1 → Ax 51 ((0 : Int)).toNat = fw1 → Gx 81 = (0 : Int) → Gx 89 = (0 : Int) → ((-2147483648 : Int) ≤ qq ∧ qq ≤ 2147483647) → (0 ≤ qq) → (qq ≤ pc) → (0 ≤ st1) → (st1 ≤ 7000) → (0 ≤ lg1) → (lg1 ≤ 1) → (pc ≤ lb1) → (lb1 ≤ pc + st1 + bs) → (gm = Lx (qq).toNat) → (WB (1) (gm) (bs)) → (fw1 = 0) → (FA (fun _ => 0) (0) Ax) → (PE 52 (fun j => j + 1) (0) (pc) Ax) → (Cd (lg1 = 0 ∧ lb1 < 19999) (gPq T0 Ax (pc) (qq) (0) (st1) (0) (lb1))) → wj X d jm365 (60, L, [], rV c0 c1 Gx Ax T) (fun o V_q => ∃ (G_q : Nat → Int) (A_q : Nat → Nat → Int) (r : Int) (pc2 : Int), V_q = rV c0 c1 G_q A_q T ∧ o = .inl (some (.int (i32 r))) ∧ Wk G_q A_q ∧ Fr [70, 77, 79, 81, 89] [13, 44, 45, 46, 47, 48, 49, 50, 51, 52, 53, 54, 55, 56, 57, 58] G A G_q A_q ∧ Fo [53] (6000 * p) (6000 * p + 6000) A A_q ∧ Fo [54, 55] (p) (p + 1) A A_q ∧ ((0 : Int) ≤ r ∧ r ≤ 1) ∧ G_q 46 = pc2 ∧ (pc2 = pc) ∧ ((r = 1 ∧ (CP T0 A_q (pc) (p))) ∨ (r = 0))) := by
  have hF0 : Fr [70, 77, 79, 81, 89] [13, 44, 45, 46, 47, 48, 49, 50, 51, 52, 53, 54, 55, 56, 57, 58] G A G A := Fr_rf
  have hWc0 : Fo [53] (6000 * p) (6000 * p + 6000) A A := Fo_rf
  have hXc0 : Fo [54, 55] (p) (p + 1) A A := Fo_rf
  have b_pc : (0 : Int) ≤ pc ∧ pc ≤ 24 := e_pc ▸ hW.1 46
  have hWT := TA_w hW p_0
  intro m
  induction m using Nat.strongRecOn with
  | ind m ih60 =>
    intro L Gx Ax qq st1 lg1 lb1 fw1 gm bs hm gL_0 gL_1 gL_2 hWx hFx hWcx hXcx ex_st1 ex_lg1 ex_lb1 ex_fw1 fx_81 fx_89 rx_qq iv_0 iv_1 iv_2 iv_3 iv_4 iv_5 iv_6 iv_7 iv_8 iv_9 iv_10 iv_11 iv_12 iv_13
    have b_st1 : (-2147483648 : Int) ≤ st1 ∧ st1 ≤ 2147483647 := ex_st1 ▸ hWx.1 70
    have b_lg1 : (0 : Int) ≤ lg1 ∧ lg1 ≤ 1 := ex_lg1 ▸ hWx.1 79
    have b_lb1 : (-2147483648 : Int) ≤ lb1 ∧ lb1 ≤ 2147483647 := ex_lb1 ▸ hWx.1 77
    refine jx_ld (pc_q := 61) (l_q := L) (st_q := [.int (i32 (qq))]) rfl (jl_iloadn gL_2) ?_
    refine jx_ld (pc_q := 62) (l_q := L) (st_q := [.ref 66, .int (i32 (qq))]) rfl (jl_aloadn gL_0) ?_
    refine jr_get (pc_q := 65) (i := 46) (v := .int (i32 (pc))) rfl rfl (by decide) (rFv_eq (by decide) (show Gx 46 = pc from ((hFx.1 46 rfl).trans (e_pc)))) rfl ?_
    refine jx_icmp_ge (pc_q := 68) (tg := 129) rfl rfl rfl (Int.le_trans (by decide : (-2147483648 : Int) ≤ -2147483648) rx_qq.1) (Int.le_trans rx_qq.2 (by decide : (2147483647 : Int) ≤ 2147483647)) (Int.le_trans (by decide : (-2147483648 : Int) ≤ 0) b_pc.1) (Int.le_trans b_pc.2 (by decide : (24 : Int) ≤ 2147483647)) (fun h43 => ?_) (fun h43 => ?_)
    · have _q := h43
      refine jx_ld (pc_q := 130) (l_q := L) (st_q := [.ref 66]) rfl (jl_aloadn gL_0) ?_
      refine jr_get (pc_q := 133) (i := 70) (v := .int (i32 (st1))) rfl rfl (by decide) (rFv_eq (by decide) (show Gx 70 = st1 from (ex_st1))) rfl ?_
      refine jx_ld (pc_q := 134) (l_q := jSto1 L 2 (.int (i32 (st1)))) (st_q := []) rfl rfl ?_
      obtain ⟨L44, eL44⟩ : ∃ q, q = jSto1 L 2 (.int (i32 (st1))) := ⟨_, rfl⟩
      rw [← eL44]
      have gL44_0 : jGet L44 0 = some (.ref 66) := eL44 ▸ jg_ne (by decide) gL_0 rfl
      have gL44_1 : jGet L44 1 = some (.int (i32 (p))) := eL44 ▸ jg_ne (by decide) gL_1 rfl
      have gL44_2 : jGet L44 2 = some (.int (i32 (st1))) := eL44 ▸ jg_eq
      have hmo := CW_mo p_5 (i := (pc).toNat) (j := (pc).toNat) (Nat.le_refl _) (by omega); have hqe : qq = pc := (by omega); have hgq : gm = Lx (pc).toNat := (by rw [iv_8, hqe]); obtain ⟨b1, hb1⟩ : ∃ b, WB ba bb b := WB_ex _ _; obtain ⟨b2, hb2⟩ : ∃ b, WB 1 bb b := WB_ex _ _; have hbn := WB_3 iv_9 hb1 hb2 (by omega) (by omega) (by omega); have hbx := WB_c hb2 (by omega) (by omega)
      refine jx_ld (pc_q := 135) (l_q := L44) (st_q := [.ref 66]) rfl (jl_aloadn gL44_0) ?_
      refine jx_ld (pc_q := 136) (l_q := L44) (st_q := [.ref 66, .ref 66]) rfl (jl_aloadn gL44_0) ?_
      refine jr_get (pc_q := 139) (i := 55) (v := .ref 103) rfl rfl (by decide) rfl rfl ?_
      refine jx_ld (pc_q := 140) (l_q := L44) (st_q := [.int (i32 (p)), .ref 103, .ref 66]) rfl (jl_iloadn gL44_1) ?_
      have b45 : (-2147483648 : Int) ≤ T0 36 (p).toNat ∧ T0 36 (p).toNat ≤ 2147483647 := hWT.2 36 _
      refine jr_ldv (pc_q := 141) (i := 36) (m := 6) (z := p) (y := T0 36 (p).toNat) rfl (by decide) rfl (by decide) (by omega) (by omega) rfl (show Ax 36 (p).toNat = T0 36 (p).toNat from (congrFun ((hFx.2 36 rfl).trans (p_0 36 rfl)) _)) ?_
      refine jx_vr (pc_q := 144) (as := [.int (i32 (T0 36 (p).toNat))]) (st := []) rfl rfl rfl rfl ⟨rfl, rfl, Nat.le_of_ble_eq_true rfl⟩ rfl rfl (GN_all X 18 (dd := d) (hd := by omega) (hW := hWx) (p := T0 36 (p).toNat) (lo := ba) (hi := bb) (s0 := bu) (s1 := bv) (fr := 1) (z := T0 37 (p).toNat) (D := T0 38 (p).toNat) (bd := b1) (st := st1) (e_st := show Gx 70 = st1 from (ex_st1)) (lg := lg1) (e_lg := show Gx 79 = lg1 from (ex_lg1)) (lb := lb1) (e_lb := show Gx 77 = lb1 from (ex_lb1)) (nw := (0 : Int)) (e_nw := show Gx 81 = (0 : Int) from (fx_81)) (al := (0 : Int)) (e_al := show Gx 89 = (0 : Int) from (fx_89)) (fw := fw1) (e_fw := show Ax 51 ((0 : Int)).toNat = fw1 from (ex_fw1))  (h_p := ⟨(Int.le_trans (by decide : (-2147483648 : Int) ≤ -2147483648) b45.1), (Int.le_trans b45.2 (by decide : (2147483647 : Int) ≤ 2147483647))⟩)  (p_0 := (TA_fr hFx (by decide) p_0)) (p_1 := iv_11) (p_2 := (SA_v (S := fun _ => 0) p_14)) (p_3 := p_13) (p_4 := by omega) (p_5 := by omega) (p_6 := by omega) (p_7 := by omega) (p_8 := by omega) (p_9 := by omega) (p_10 := by omega) (p_11 := by omega) (p_12 := by omega) (p_13 := by omega) (p_14 := by omega) (p_15 := by omega) (p_16 := by omega) (p_17 := p_16) (p_18 := p_15) (p_19 := p_17) (p_20 := hb1) (p_21 := by omega) (p_22 := by omega) (p_23 := by omega) (p_24 := by omega) (p_25 := by omega) (p_26 := by omega) (p_27 := by omega) (p_28 := (PV_su (PV_mq p_5 p_6) (by omega))) (p_29 := (PA_pe iv_12 (by omega)))) (fun o V_q hq => ?_)
      obtain ⟨G46, A47, st2_48, lg2_49, lb2_50, nw2_51, al2_52, fw2_53, rfl, rfl, hW54, hF55, hQ56, hQ57, hQ58, e59, e60, e61, e62, e63, e64, p65, p66, p67, p68, p69, p70, p71, p72, p73, p74, p75, p76, p77, p78, -⟩ := hq
      have hF80 := Fr_tr hFx hF55 (Fr_sub (by decide)) (Fr_sub (by decide))
      have hWc81 := Fo_f hWcx hF55 (by decide)
      have hXc82 := Fo_f hXcx hF55 (by decide)
      have sf83 : PE 52 (fun j => j + 1) (0) (pc) A47 := PE_fr (hF55.2 52 rfl) iv_12
      have bst2_48 : (-2147483648 : Int) ≤ st2_48 ∧ st2_48 ≤ 2147483647 := e59 ▸ hW54.1 70
      have blg2_49 : (0 : Int) ≤ lg2_49 ∧ lg2_49 ≤ 1 := e60 ▸ hW54.1 79
      have blb2_50 : (-2147483648 : Int) ≤ lb2_50 ∧ lb2_50 ≤ 2147483647 := e61 ▸ hW54.1 77
      have bnw2_51 : (-2147483648 : Int) ≤ nw2_51 ∧ nw2_51 ≤ 2147483647 := e62 ▸ hW54.1 81
      have bal2_52 : (-2147483648 : Int) ≤ al2_52 ∧ al2_52 ≤ 2147483647 := e63 ▸ hW54.1 89
      have bfw2_53 : (-2147483648 : Int) ≤ fw2_53 ∧ fw2_53 ≤ 2147483647 := e64 ▸ hW54.2 51 _
      refine .inl ⟨rfl, ?_⟩
      have sf84 : Cd (lg2_49 = 0 ∧ lb2_50 < 19999) (gPq T0 A47 (pc) (qq) (0) (st1) (0) (lb1)) := Cd_mk (fun hC => gPq_mv (Cg_fx (l0 := 0) (l1 := lb1) hQ56 (Cd_ap p72 (by omega)) (by omega)) (by omega) (Cd_ap iv_13 (by omega)))
      refine jx_ld (pc_q := 145) (l_q := L44) (st_q := [.ref 66]) rfl (jl_aloadn gL44_0) ?_
      refine jx_ar (pc_q := 147) (st_q := [.int (i32 (31)), .ref 66]) rfl rfl rfl rfl ?_
      refine jx_vr (pc_q := 150) (as := [.int (i32 (31))]) (st := []) rfl rfl rfl rfl ⟨rfl, rfl, Nat.le_of_ble_eq_true rfl⟩ rfl rfl (c_op (dd := d) (hd := by omega) (hW := hW54) (oo := 31) (st := st2_48) (e_st := show G46 70 = st2_48 from (e59)) (lg := lg2_49) (e_lg := show G46 79 = lg2_49 from (e60))  (h_oo := ⟨(by decide), (by decide)⟩)  (p_0 := by omega) (p_1 := by omega)) (fun o V_q hq => ?_)
      obtain ⟨G85, A86, st2_87, lg2_88, rfl, rfl, hW89, hF90, hQ91, e92, e93, p94, p95, p96, p97, p98, p99, -⟩ := hq
      have hF101 := Fr_tr hF80 hF90 (Fr_sub (by decide)) (Fr_sub (by decide))
      have hWc102 := Fo_f hWc81 hF90 (by decide)
      have hXc103 := Fo_f hXc82 hF90 (by decide)
      have sf104 : PE 52 (fun j => j + 1) (0) (pc) A86 := PE_fr (hF90.2 52 rfl) sf83
      have sf105 := FA_fr (hF90.2 51 rfl) p76
      have sf106 := SA_fr (hF90.2 13 rfl) p77
      have bst2_87 : (-2147483648 : Int) ≤ st2_87 ∧ st2_87 ≤ 2147483647 := e92 ▸ hW89.1 70
      have blg2_88 : (0 : Int) ≤ lg2_88 ∧ lg2_88 ≤ 1 := e93 ▸ hW89.1 79
      refine .inl ⟨rfl, ?_⟩
      have sf107 : Cd (lg2_88 = 0 ∧ lb2_50 < 19999) (gPq T0 A86 (pc) (qq) (0) (st1) (0) (lb1)) := Cd_mk (fun hC => gPq_mv (Cg_fx (l0 := 0) (l1 := lb1) hQ91 (Fx_f (w := lb1 + 1) Fx_rf hF90 (by decide)) (by omega)) (by omega) (Cd_ap sf84 (by omega)))
      have sf108 : Cd (lg2_88 = 0 ∧ lb2_50 < 19999) (gP T0 A86 (Qf pc) (18) (fun _ => 0) (fun _ => 0) (0 : Int) (T0 36 (p).toNat) (st1) (st2_48) (lb1) (lb2_50)) := Cd_mk (fun hC => gP_mv (Cg_fx (l0 := lb1) (l1 := lb2_50) hQ91 (Fx_f (w := lb2_50 + 1) Fx_rf hF90 (by decide)) (by omega)) (by omega) (Cd_ap p78 (by omega)))
      refine jx_ld (pc_q := 151) (l_q := L44) (st_q := [.ref 66]) rfl (jl_aloadn gL44_0) ?_
      refine jr_get (pc_q := 154) (i := 79) (v := .int (i32 (lg2_88))) rfl rfl (by decide) (rFv_eq (by decide) (show G85 79 = lg2_88 from (e93))) rfl ?_
      refine jx_if_ne (pc_q := 157) (tg := 167) rfl rfl rfl (Int.le_trans (by decide : (-2147483648 : Int) ≤ 0) blg2_88.1) (Int.le_trans blg2_88.2 (by decide : (1 : Int) ≤ 2147483647)) (fun h109 => ?_) (fun h109 => ?_)
      · have _q := h109
        refine jx_ar (pc_q := 168) (st_q := [.int (i32 (0))]) rfl rfl rfl rfl ?_
        refine jx_rt (v := some (.int (i32 (0)))) rfl rfl rfl rfl rfl (by first | rfl | exact jRet_b (by omega)) ?_
        exact ⟨_, _, _, pc, rfl, rfl, hW89, hF101, hWc102, hXc103, by omega, ((hF90.1 46 rfl).trans ((hF55.1 46 rfl).trans ((hFx.1 46 rfl).trans (e_pc)))), by omega, by first | exact Or.inl (⟨by omega, (CQ_cp iv_3 (by omega) (fun n => ⟨hW89.2 49 n, hW89.2 45 n⟩))⟩) | exact Or.inr ((by omega))⟩
      · have _q := h109
        refine jx_ld (pc_q := 158) (l_q := L44) (st_q := [.ref 66]) rfl (jl_aloadn gL44_0) ?_
        refine jr_get (pc_q := 161) (i := 77) (v := .int (i32 (lb2_50))) rfl rfl (by decide) (rFv_eq (by decide) (show G85 77 = lb2_50 from ((hF90.1 77 rfl).trans (e61)))) rfl ?_
        refine jx_ar (pc_q := 164) (st_q := [.int (i32 (19999)), .int (i32 (lb2_50))]) rfl rfl rfl rfl ?_
        refine jx_icmp_lt (pc_q := 167) (tg := 169) rfl rfl rfl (Int.le_trans (by decide : (-2147483648 : Int) ≤ -2147483648) blb2_50.1) (Int.le_trans blb2_50.2 (by decide : (2147483647 : Int) ≤ 2147483647)) (by decide) (by decide) (fun h110 => ?_) (fun h110 => ?_)
        · have _q := h110
          exact c_genAll_at_169 (X := X) (d := d) (T0 := T0) (Lx := Lx) (Sx := Sx) (Vs := Vs) (ba := ba) (bb := bb) (bu := bu) (bv := bv) (c0 := c0) (c1 := c1) (G := G) (A := A) (T := T) (p := p) (pc := pc) (hd := hd) (hW := hW) (e_pc := e_pc) (h_p := h_p) (p_0 := p_0) (p_1 := p_1) (p_2 := p_2) (p_3 := p_3) (p_4 := p_4) (p_5 := p_5) (p_6 := p_6) (p_7 := p_7) (p_8 := p_8) (p_9 := p_9) (p_10 := p_10) (p_11 := p_11) (p_12 := p_12) (p_13 := p_13) (p_14 := p_14) (p_15 := p_15) (p_16 := p_16) (p_17 := p_17) (p_18 := p_18) (p_19 := p_19) (p_20 := p_20) L44 G85 A86 (st1) (st2_87) (lb2_50) gL44_0 gL44_1 gL44_2 hW89 hF101 hWc102 hXc103 ((e92)) (((hF90.1 77 rfl).trans (e61))) (by omega) (by omega) (by omega) (by omega) (⟨_, lb1, by omega, by omega, gPq_end (Cd_ap sf107 (by omega)) hqe, (Cd_ap sf108 (by omega)), (Cd_ap p99 (by omega))⟩)
        · have _q := h110
          refine jx_ar (pc_q := 168) (st_q := [.int (i32 (0))]) rfl rfl rfl rfl ?_
          refine jx_rt (v := some (.int (i32 (0)))) rfl rfl rfl rfl rfl (by first | rfl | exact jRet_b (by omega)) ?_
          exact ⟨_, _, _, pc, rfl, rfl, hW89, hF101, hWc102, hXc103, by omega, ((hF90.1 46 rfl).trans ((hF55.1 46 rfl).trans ((hFx.1 46 rfl).trans (e_pc)))), by omega, by first | exact Or.inl (⟨by omega, (CQ_cp iv_3 (by omega) (fun n => ⟨hW89.2 49 n, hW89.2 45 n⟩))⟩) | exact Or.inr ((by omega))⟩
    · have _q := h43
      obtain ⟨V, m1, s0, s1, hm1, hg1, hg2, hg3, hs0, hs1, h30, hs2, hVW, hNK, hVB, hwq, hlq, h32, h33, h40⟩ := CW_hd p_5 p_6 (by omega) (by omega) iv_8; obtain ⟨sz, hsz⟩ : ∃ z, z = s0 + 1 + T0 30 (qq).toNat := ⟨_, rfl⟩; rw [← hsz] at hVB hwq; obtain ⟨b1, hb1⟩ : ∃ b, WB gm m1 b := WB_ex _ _; obtain ⟨b2, hb2⟩ : ∃ b, WB 1 m1 b := WB_ex _ _; have hbn := WB_ad iv_9 hb1 hb2 (by omega) (by omega); have hbx := WB_c hb2 (by omega) (by omega); have hl52 : Ax 52 (qq).toNat = qq + 1 := (by have h := iv_12 qq (by omega) (by omega); rw [show (0 : Int) + qq = qq by omega] at h; exact h)
      refine jx_ld (pc_q := 69) (l_q := L) (st_q := [.ref 66]) rfl (jl_aloadn gL_0) ?_
      refine jx_ld (pc_q := 70) (l_q := L) (st_q := [.ref 66, .ref 66]) rfl (jl_aloadn gL_0) ?_
      refine jr_get (pc_q := 73) (i := 82) (v := .ref 119) rfl rfl (by decide) rfl rfl ?_
      refine jx_ld (pc_q := 74) (l_q := L) (st_q := [.int (i32 (qq)), .ref 119, .ref 66]) rfl (jl_iloadn gL_2) ?_
      have b111 : (-2147483648 : Int) ≤ Ax 52 (qq).toNat ∧ Ax 52 (qq).toNat ≤ 2147483647 := hWx.2 52 _
      refine jr_ldv (pc_q := 75) (i := 52) (m := 25) (z := qq) (y := Ax 52 (qq).toNat) rfl (by decide) rfl (by decide) (by omega) (by omega) rfl (show Ax 52 (qq).toNat = Ax 52 (qq).toNat from rfl) ?_
      refine jx_vr (pc_q := 78) (as := [.int (i32 (Ax 52 (qq).toNat))]) (st := []) rfl rfl rfl rfl ⟨rfl, rfl, Nat.le_of_ble_eq_true rfl⟩ rfl rfl (c_set (dd := d) (hd := by omega) (hW := hWx) (l := Ax 52 (qq).toNat) (st := st1) (e_st := show Gx 70 = st1 from (ex_st1))  (h_l := ⟨(Int.le_trans (by decide : (-2147483648 : Int) ≤ -2147483648) b111.1), (Int.le_trans b111.2 (by decide : (2147483647 : Int) ≤ 2147483647))⟩)  (p_0 := by omega) (p_1 := by omega)) (fun o V_q hq => ?_)
      obtain ⟨G112, A113, ls2_114, rfl, rfl, hW115, hF116, e117, p118, q119⟩ := hq
      have hF120 := Fr_tr hFx hF116 (Fr_sub (by decide)) (Fr_sub (by decide))
      have hWc121 := Fo_f hWcx hF116 (by decide)
      have hXc122 := Fo_f hXcx hF116 (by decide)
      have bls2_114 : (-2147483648 : Int) ≤ ls2_114 ∧ ls2_114 ≤ 2147483647 := e117 ▸ hW115.2 50 _
      refine .inl ⟨rfl, ?_⟩
      have a123 := q119
      have sf124 := FA_fr ((congrFun a123 51).trans (uA_ne (by decide))) iv_11
      have sf125 : PE 52 (fun j => j + 1) (0) (pc) A113 := PE_fr ((congrFun a123 52).trans (uA_ne (by decide))) iv_12
      have sf126 : Cd (lg1 = 0 ∧ lb1 < 19999) (gPq T0 A113 (pc) (qq) (0) (st1) (0) (lb1)) := Cd_mk (fun hC => gPq_set a123 (by omega) (by omega) (Cd_ap iv_13 (by omega)))
      have hlz : Cd (lg1 = 0 ∧ lb1 < 19999) (LZ A113 (Ax 52 (qq).toNat) (st1) (0) (pc)) := Cd_mk (fun hC => LZ_mk (by omega) (by omega) (by omega) ((show A113 50 (Ax 52 (qq).toNat).toNat = ls2_114 from (e117)).trans (by omega)))
      refine jx_ld (pc_q := 79) (l_q := L) (st_q := [.ref 66]) rfl (jl_aloadn gL_0) ?_
      refine jx_ar (pc_q := 81) (st_q := [.int (i32 (11)), .ref 66]) rfl rfl rfl rfl ?_
      refine jx_ld (pc_q := 82) (l_q := L) (st_q := [.ref 66, .int (i32 (11)), .ref 66]) rfl (jl_aloadn gL_0) ?_
      refine jr_get (pc_q := 85) (i := 50) (v := .ref 99) rfl rfl (by decide) rfl rfl ?_
      refine jx_ld (pc_q := 86) (l_q := L) (st_q := [.int (i32 (qq)), .ref 99, .int (i32 (11)), .ref 66]) rfl (jl_iloadn gL_2) ?_
      have b127 : (-2147483648 : Int) ≤ T0 32 (qq).toNat ∧ T0 32 (qq).toNat ≤ 2147483647 := hWT.2 32 _
      refine jr_ldv (pc_q := 87) (i := 32) (m := 25) (z := qq) (y := T0 32 (qq).toNat) rfl (by decide) rfl (by decide) (by omega) (by omega) rfl (show A113 32 (qq).toNat = T0 32 (qq).toNat from (congrFun ((hF116.2 32 rfl).trans ((hFx.2 32 rfl).trans (p_0 32 rfl))) _)) ?_
      refine jx_neg (pc_q := 88) rfl rfl ?_
      refine jx_ar (pc_q := 89) (st_q := [.int (i32 (3)), .int (i32 ((-T0 32 (qq).toNat))), .int (i32 (11)), .ref 66]) rfl rfl rfl rfl ?_
      refine jx_sub (pc_q := 90) rfl rfl ?_
      refine jx_vr (pc_q := 93) (as := [.int (i32 (11)), .int (i32 (((-T0 32 (qq).toNat) - 3)))]) (st := []) rfl rfl rfl rfl ⟨rfl, rfl, Nat.le_of_ble_eq_true rfl⟩ rfl rfl (c_emit (dd := d) (hd := by omega) (hW := hW115) (fn := 11) (v := ((-T0 32 (qq).toNat) - 3)) (st := st1) (e_st := show G112 70 = st1 from ((hF116.1 70 rfl).trans (ex_st1))) (lg := lg1) (e_lg := show G112 79 = lg1 from ((hF116.1 79 rfl).trans (ex_lg1)))  (h_fn := ⟨(by decide), (by decide)⟩) (h_v := ⟨(by omega), (by omega)⟩)  (p_0 := by omega) (p_1 := by omega)) (fun o V_q hq => ?_)
      obtain ⟨G128, A129, st2_130, lg2_131, rfl, rfl, hW132, hF133, hQ134, e135, e136, p137, p138, p139, p140, p141, p142, -⟩ := hq
      have hF144 := Fr_tr hF120 hF133 (Fr_sub (by decide)) (Fr_sub (by decide))
      have hWc145 := Fo_f hWc121 hF133 (by decide)
      have hXc146 := Fo_f hXc122 hF133 (by decide)
      have sf147 := FA_fr (hF133.2 51 rfl) sf124
      have sf148 : PE 52 (fun j => j + 1) (0) (pc) A129 := PE_fr (hF133.2 52 rfl) sf125
      have bst2_130 : (-2147483648 : Int) ≤ st2_130 ∧ st2_130 ≤ 2147483647 := e135 ▸ hW132.1 70
      have blg2_131 : (0 : Int) ≤ lg2_131 ∧ lg2_131 ≤ 1 := e136 ▸ hW132.1 79
      refine .inl ⟨rfl, ?_⟩
      have sf149 : Cd (lg2_131 = 0 ∧ lb1 < 19999) (gPq T0 A129 (pc) (qq) (0) (st1) (0) (lb1)) := Cd_mk (fun hC => gPq_mv (Cg_fx (l0 := 0) (l1 := lb1) hQ134 (Fx_f (w := lb1 + 1) Fx_rf hF133 (by decide)) (by omega)) (by omega) (Cd_ap sf126 (by omega)))
      have sf150 : Cd (lg2_131 = 0 ∧ lb1 < 19999) (LZ A129 (Ax 52 (qq).toNat) (st1) (0) (pc)) := Cd_mk (fun hC => LZ_mv (Cg_fx (l0 := 0) (l1 := pc) hQ134 (Fx_f (w := pc + 1) Fx_rf hF133 (by decide)) (by omega)) (by omega) (Cd_ap hlz (by omega)))
      have _q : True := trivial
      refine jx_ld (pc_q := 94) (l_q := L) (st_q := [.ref 66]) rfl (jl_aloadn gL_0) ?_
      refine jx_ld (pc_q := 95) (l_q := L) (st_q := [.ref 66, .ref 66]) rfl (jl_aloadn gL_0) ?_
      refine jr_get (pc_q := 98) (i := 49) (v := .ref 98) rfl rfl (by decide) rfl rfl ?_
      refine jx_ld (pc_q := 99) (l_q := L) (st_q := [.int (i32 (qq)), .ref 98, .ref 66]) rfl (jl_iloadn gL_2) ?_
      have b151 : (-2147483648 : Int) ≤ T0 31 (qq).toNat ∧ T0 31 (qq).toNat ≤ 2147483647 := hWT.2 31 _
      refine jr_ldv (pc_q := 100) (i := 31) (m := 25) (z := qq) (y := T0 31 (qq).toNat) rfl (by decide) rfl (by decide) (by omega) (by omega) rfl (show A129 31 (qq).toNat = T0 31 (qq).toNat from (congrFun ((hF133.2 31 rfl).trans ((hF116.2 31 rfl).trans ((hFx.2 31 rfl).trans (p_0 31 rfl)))) _)) ?_
      refine jx_vr (pc_q := 103) (as := [.int (i32 (T0 31 (qq).toNat))]) (st := []) rfl rfl rfl rfl ⟨rfl, rfl, Nat.le_of_ble_eq_true rfl⟩ rfl rfl (GN_all X 18 (dd := d) (hd := by omega) (hW := hW132) (p := T0 31 (qq).toNat) (lo := gm) (hi := m1) (s0 := sz) (s1 := s1) (fr := 1 + T0 30 (qq).toNat) (z := T0 32 (qq).toNat) (D := T0 33 (qq).toNat) (bd := b1) (st := st2_130) (e_st := show G128 70 = st2_130 from (e135)) (lg := lg2_131) (e_lg := show G128 79 = lg2_131 from (e136)) (lb := lb1) (e_lb := show G128 77 = lb1 from ((hF133.1 77 rfl).trans ((hF116.1 77 rfl).trans (ex_lb1)))) (nw := (0 : Int)) (e_nw := show G128 81 = (0 : Int) from ((hF133.1 81 rfl).trans ((hF116.1 81 rfl).trans (fx_81)))) (al := (0 : Int)) (e_al := show G128 89 = (0 : Int) from ((hF133.1 89 rfl).trans ((hF116.1 89 rfl).trans (fx_89)))) (fw := fw1) (e_fw := show A129 51 ((0 : Int)).toNat = fw1 from (congrFun ((hF133.2 51 rfl).trans (hF116.2 51 rfl)) _).trans (ex_fw1))  (h_p := ⟨(Int.le_trans (by decide : (-2147483648 : Int) ≤ -2147483648) b151.1), (Int.le_trans b151.2 (by decide : (2147483647 : Int) ≤ 2147483647))⟩)  (p_0 := (TA_fr hF144 (by decide) p_0)) (p_1 := sf147) (p_2 := (SA_v (S := fun _ => 0) hNK)) (p_3 := hVW) (p_4 := by omega) (p_5 := by omega) (p_6 := by omega) (p_7 := by omega) (p_8 := by omega) (p_9 := by omega) (p_10 := by omega) (p_11 := by omega) (p_12 := by omega) (p_13 := by omega) (p_14 := by omega) (p_15 := by omega) (p_16 := by omega) (p_17 := hwq) (p_18 := (VB_mo hVB (by omega))) (p_19 := hlq) (p_20 := hb1) (p_21 := by omega) (p_22 := by omega) (p_23 := by omega) (p_24 := by omega) (p_25 := by omega) (p_26 := by omega) (p_27 := by omega) (p_28 := (PV_su (PV_mq p_5 p_6) (by omega))) (p_29 := (PA_pe sf148 (by omega)))) (fun o V_q hq => ?_)
      obtain ⟨G152, A153, st2_154, lg2_155, lb2_156, nw2_157, al2_158, fw2_159, rfl, rfl, hW160, hF161, hQ162, hQ163, hQ164, e165, e166, e167, e168, e169, e170, p171, p172, p173, p174, p175, p176, p177, p178, p179, p180, p181, p182, p183, p184, -⟩ := hq
      have hF186 := Fr_tr hF144 hF161 (Fr_sub (by decide)) (Fr_sub (by decide))
      have hWc187 := Fo_f hWc145 hF161 (by decide)
      have hXc188 := Fo_f hXc146 hF161 (by decide)
      have sf189 : PE 52 (fun j => j + 1) (0) (pc) A153 := PE_fr (hF161.2 52 rfl) sf148
      have bst2_154 : (-2147483648 : Int) ≤ st2_154 ∧ st2_154 ≤ 2147483647 := e165 ▸ hW160.1 70
      have blg2_155 : (0 : Int) ≤ lg2_155 ∧ lg2_155 ≤ 1 := e166 ▸ hW160.1 79
      have blb2_156 : (-2147483648 : Int) ≤ lb2_156 ∧ lb2_156 ≤ 2147483647 := e167 ▸ hW160.1 77
      have bnw2_157 : (-2147483648 : Int) ≤ nw2_157 ∧ nw2_157 ≤ 2147483647 := e168 ▸ hW160.1 81
      have bal2_158 : (-2147483648 : Int) ≤ al2_158 ∧ al2_158 ≤ 2147483647 := e169 ▸ hW160.1 89
      have bfw2_159 : (-2147483648 : Int) ≤ fw2_159 ∧ fw2_159 ≤ 2147483647 := e170 ▸ hW160.2 51 _
      refine .inl ⟨rfl, ?_⟩
      have sf190 : Cd (lg2_155 = 0 ∧ lb2_156 < 19999) (gPq T0 A153 (pc) (qq) (0) (st1) (0) (lb1)) := Cd_mk (fun hC => gPq_mv (Cg_fx (l0 := 0) (l1 := lb1) hQ162 (Cd_ap p178 (by omega)) (by omega)) (by omega) (Cd_ap sf149 (by omega)))
      have sf191 : Cd (lg2_155 = 0 ∧ lb2_156 < 19999) (LZ A153 (Ax 52 (qq).toNat) (st1) (0) (pc)) := Cd_mk (fun hC => LZ_mv (Cg_fx (l0 := 0) (l1 := pc) hQ162 (Cd_ap p178 (by omega)) (by omega)) (by omega) (Cd_ap sf150 (by omega)))
      have sf192 : Cd (lg2_155 = 0 ∧ lb2_156 < 19999) (ST A153 (st1) (st2_130) (11) ((-T0 32 (qq).toNat) - 3)) := Cd_mk (fun hC => ST_mv (Cg_fx (l0 := 0) (l1 := 0) hQ162 (Cd_ap p178 (by omega)) (by omega)) (by omega) (Cd_ap p142 (by omega)))
      refine jx_ld (pc_q := 104) (l_q := L) (st_q := [.ref 66]) rfl (jl_aloadn gL_0) ?_
      refine jx_ar (pc_q := 106) (st_q := [.int (i32 (11)), .ref 66]) rfl rfl rfl rfl ?_
      refine jx_ld (pc_q := 107) (l_q := L) (st_q := [.ref 66, .int (i32 (11)), .ref 66]) rfl (jl_aloadn gL_0) ?_
      refine jr_get (pc_q := 110) (i := 50) (v := .ref 99) rfl rfl (by decide) rfl rfl ?_
      refine jx_ld (pc_q := 111) (l_q := L) (st_q := [.int (i32 (qq)), .ref 99, .int (i32 (11)), .ref 66]) rfl (jl_iloadn gL_2) ?_
      refine jr_ldv (pc_q := 112) (i := 32) (m := 25) (z := qq) (y := T0 32 (qq).toNat) rfl (by decide) rfl (by decide) (by omega) (by omega) rfl (show A153 32 (qq).toNat = T0 32 (qq).toNat from (congrFun ((hF161.2 32 rfl).trans ((hF133.2 32 rfl).trans ((hF116.2 32 rfl).trans ((hFx.2 32 rfl).trans (p_0 32 rfl))))) _)) ?_
      refine jx_ar (pc_q := 113) (st_q := [.int (i32 (3)), .int (i32 (T0 32 (qq).toNat)), .int (i32 (11)), .ref 66]) rfl rfl rfl rfl ?_
      refine jx_add (pc_q := 114) rfl rfl ?_
      refine jx_vr (pc_q := 117) (as := [.int (i32 (11)), .int (i32 ((T0 32 (qq).toNat + 3)))]) (st := []) rfl rfl rfl rfl ⟨rfl, rfl, Nat.le_of_ble_eq_true rfl⟩ rfl rfl (c_emit (dd := d) (hd := by omega) (hW := hW160) (fn := 11) (v := (T0 32 (qq).toNat + 3)) (st := st2_154) (e_st := show G152 70 = st2_154 from (e165)) (lg := lg2_155) (e_lg := show G152 79 = lg2_155 from (e166))  (h_fn := ⟨(by decide), (by decide)⟩) (h_v := ⟨(by omega), (by omega)⟩)  (p_0 := by omega) (p_1 := by omega)) (fun o V_q hq => ?_)
      obtain ⟨G193, A194, st2_195, lg2_196, rfl, rfl, hW197, hF198, hQ199, e200, e201, p202, p203, p204, p205, p206, p207, -⟩ := hq
      have hF209 := Fr_tr hF186 hF198 (Fr_sub (by decide)) (Fr_sub (by decide))
      have hWc210 := Fo_f hWc187 hF198 (by decide)
      have hXc211 := Fo_f hXc188 hF198 (by decide)
      have sf212 : PE 52 (fun j => j + 1) (0) (pc) A194 := PE_fr (hF198.2 52 rfl) sf189
      have sf213 := FA_fr (hF198.2 51 rfl) p182
      have sf214 := SA_fr (hF198.2 13 rfl) p183
      have bst2_195 : (-2147483648 : Int) ≤ st2_195 ∧ st2_195 ≤ 2147483647 := e200 ▸ hW197.1 70
      have blg2_196 : (0 : Int) ≤ lg2_196 ∧ lg2_196 ≤ 1 := e201 ▸ hW197.1 79
      refine .inl ⟨rfl, ?_⟩
      have sf215 : Cd (lg2_196 = 0 ∧ lb2_156 < 19999) (gPq T0 A194 (pc) (qq) (0) (st1) (0) (lb1)) := Cd_mk (fun hC => gPq_mv (Cg_fx (l0 := 0) (l1 := lb1) hQ199 (Fx_f (w := lb1 + 1) Fx_rf hF198 (by decide)) (by omega)) (by omega) (Cd_ap sf190 (by omega)))
      have sf216 : Cd (lg2_196 = 0 ∧ lb2_156 < 19999) (LZ A194 (Ax 52 (qq).toNat) (st1) (0) (pc)) := Cd_mk (fun hC => LZ_mv (Cg_fx (l0 := 0) (l1 := pc) hQ199 (Fx_f (w := pc + 1) Fx_rf hF198 (by decide)) (by omega)) (by omega) (Cd_ap sf191 (by omega)))
      have sf217 : Cd (lg2_196 = 0 ∧ lb2_156 < 19999) (ST A194 (st1) (st2_130) (11) ((-T0 32 (qq).toNat) - 3)) := Cd_mk (fun hC => ST_mv (Cg_fx (l0 := 0) (l1 := 0) hQ199 (Fx_f (w := 0 + 1) Fx_rf hF198 (by decide)) (by omega)) (by omega) (Cd_ap sf192 (by omega)))
      have sf218 : Cd (lg2_196 = 0 ∧ lb2_156 < 19999) (gP T0 A194 (Qf pc) (18) (fun _ => 0) (fun _ => 0) (0 : Int) (T0 31 (qq).toNat) (st2_130) (st2_154) (lb1) (lb2_156)) := Cd_mk (fun hC => gP_mv (Cg_fx (l0 := lb1) (l1 := lb2_156) hQ199 (Fx_f (w := lb2_156 + 1) Fx_rf hF198 (by decide)) (by omega)) (by omega) (Cd_ap p184 (by omega)))
      refine jx_ld (pc_q := 118) (l_q := L) (st_q := [.ref 66]) rfl (jl_aloadn gL_0) ?_
      refine jx_ar (pc_q := 120) (st_q := [.int (i32 (19)), .ref 66]) rfl rfl rfl rfl ?_
      refine jx_vr (pc_q := 123) (as := [.int (i32 (19))]) (st := []) rfl rfl rfl rfl ⟨rfl, rfl, Nat.le_of_ble_eq_true rfl⟩ rfl rfl (c_op (dd := d) (hd := by omega) (hW := hW197) (oo := 19) (st := st2_195) (e_st := show G193 70 = st2_195 from (e200)) (lg := lg2_196) (e_lg := show G193 79 = lg2_196 from (e201))  (h_oo := ⟨(by decide), (by decide)⟩)  (p_0 := by omega) (p_1 := by omega)) (fun o V_q hq => ?_)
      obtain ⟨G219, A220, st2_221, lg2_222, rfl, rfl, hW223, hF224, hQ225, e226, e227, p228, p229, p230, p231, p232, p233, -⟩ := hq
      have hF235 := Fr_tr hF209 hF224 (Fr_sub (by decide)) (Fr_sub (by decide))
      have hWc236 := Fo_f hWc210 hF224 (by decide)
      have hXc237 := Fo_f hXc211 hF224 (by decide)
      have sf238 : PE 52 (fun j => j + 1) (0) (pc) A220 := PE_fr (hF224.2 52 rfl) sf212
      have sf239 := FA_fr (hF224.2 51 rfl) sf213
      have sf240 := SA_fr (hF224.2 13 rfl) sf214
      have bst2_221 : (-2147483648 : Int) ≤ st2_221 ∧ st2_221 ≤ 2147483647 := e226 ▸ hW223.1 70
      have blg2_222 : (0 : Int) ≤ lg2_222 ∧ lg2_222 ≤ 1 := e227 ▸ hW223.1 79
      refine .inl ⟨rfl, ?_⟩
      have sf241 : Cd (lg2_222 = 0 ∧ lb2_156 < 19999) (gPq T0 A220 (pc) (qq) (0) (st1) (0) (lb1)) := Cd_mk (fun hC => gPq_mv (Cg_fx (l0 := 0) (l1 := lb1) hQ225 (Fx_f (w := lb1 + 1) Fx_rf hF224 (by decide)) (by omega)) (by omega) (Cd_ap sf215 (by omega)))
      have sf242 : Cd (lg2_222 = 0 ∧ lb2_156 < 19999) (LZ A220 (Ax 52 (qq).toNat) (st1) (0) (pc)) := Cd_mk (fun hC => LZ_mv (Cg_fx (l0 := 0) (l1 := pc) hQ225 (Fx_f (w := pc + 1) Fx_rf hF224 (by decide)) (by omega)) (by omega) (Cd_ap sf216 (by omega)))
      have sf243 : Cd (lg2_222 = 0 ∧ lb2_156 < 19999) (ST A220 (st1) (st2_130) (11) ((-T0 32 (qq).toNat) - 3)) := Cd_mk (fun hC => ST_mv (Cg_fx (l0 := 0) (l1 := 0) hQ225 (Fx_f (w := 0 + 1) Fx_rf hF224 (by decide)) (by omega)) (by omega) (Cd_ap sf217 (by omega)))
      have sf244 : Cd (lg2_222 = 0 ∧ lb2_156 < 19999) (gP T0 A220 (Qf pc) (18) (fun _ => 0) (fun _ => 0) (0 : Int) (T0 31 (qq).toNat) (st2_130) (st2_154) (lb1) (lb2_156)) := Cd_mk (fun hC => gP_mv (Cg_fx (l0 := lb1) (l1 := lb2_156) hQ225 (Fx_f (w := lb2_156 + 1) Fx_rf hF224 (by decide)) (by omega)) (by omega) (Cd_ap sf218 (by omega)))
      have sf245 : Cd (lg2_222 = 0 ∧ lb2_156 < 19999) (ST A220 (st2_154) (st2_195) (11) (T0 32 (qq).toNat + 3)) := Cd_mk (fun hC => ST_mv (Cg_fx (l0 := 0) (l1 := 0) hQ225 (Fx_f (w := 0 + 1) Fx_rf hF224 (by decide)) (by omega)) (by omega) (Cd_ap p207 (by omega)))
      refine jx_inc (pc_q := 126) (l_q := jSto1 L 2 (.int (i32 ((qq + (1)))))) (x := qq) rfl gL_2 (by decide) rfl rfl ?_
      obtain ⟨L246, eL246⟩ : ∃ q, q = jSto1 L 2 (.int (i32 ((qq + (1))))) := ⟨_, rfl⟩
      rw [← eL246]
      have gL246_0 : jGet L246 0 = some (.ref 66) := eL246 ▸ jg_ne (by decide) gL_0 rfl
      have gL246_1 : jGet L246 1 = some (.int (i32 (p))) := eL246 ▸ jg_ne (by decide) gL_1 rfl
      have gL246_2 : jGet L246 2 = some (.int (i32 ((qq + (1))))) := eL246 ▸ jg_eq
      refine jx_go (tg := 60) rfl rfl ?_
      exact ih60 _ (by omega) L246 G219 A220 ((qq + (1))) (st2_221) (lg2_222) (lb2_156) (fw2_159) (m1) (b2) rfl gL246_0 gL246_1 gL246_2 hW223 hF235 hWc236 hXc237 ((e226)) ((e227)) (((hF224.1 77 rfl).trans ((hF198.1 77 rfl).trans (e167)))) ((congrFun ((hF224.2 51 rfl).trans (hF198.2 51 rfl)) _).trans (e170)) (Eq.trans (show G219 81 = nw2_157 from ((hF224.1 81 rfl).trans ((hF198.1 81 rfl).trans (e168)))) (by omega)) (Eq.trans (show G219 89 = al2_158 from ((hF224.1 89 rfl).trans ((hF198.1 89 rfl).trans (e169)))) (by omega)) (by omega) (by omega) (by omega) (by omega) (by omega) (by omega) (by omega) (by omega) (by omega) (by omega) (hb2) (by omega) (sf239) (sf238) ((Cd_mk (fun hC => (gPq_nx (Cd_ap sf241 (by omega)) (by omega) (by omega) (by omega) (Cd_ap sf242 (by omega)) (by omega) (Cd_ap sf243 (by omega)) (by omega) (Cd_ap sf244 (by omega)) (Cd_ap sf245 (by omega)) (by omega) (Cd_ap p233 (by omega))))))
set_option maxRecDepth 20000 in
set_option maxHeartbeats 4000000 in
theorem c_genAll_at_34 {X : jX} {d : Nat} {T0 : Nat → Nat → Int} {Lx Sx : Nat → Int} {Vs : Nat → Prop} {ba bb bu bv : Int} {c0 c1 : jC} {G : Nat → Int} {A : Nat → Nat → Int} {T : jH} {p : Int} {pc : Int} (hd : 2 * 18 + 63 ≤ d + 1) (hW : Wk G A) (e_pc : G 46 = pc) (h_p : (-2147483648 : Int) ≤ p ∧ p ≤ 2147483647) (p_0 : TA T0 A) (p_1 : 0 ≤ p) (p_2 : p ≤ 5) (p_3 : 0 ≤ pc) (p_4 : pc ≤ 24) (p_5 : CW T0 Lx Sx (pc)) (p_6 : MQa T0 T0 (pc) 1) (p_7 : Sx (pc).toNat ≤ 202) (p_8 : Lx (pc).toNat ≤ ba) (p_9 : ba ≤ bb) (p_10 : bb ≤ 6999) (p_11 : bv ≤ 202) (p_12 : 0 ≤ bu) (p_13 : VW T0 Vs (0)) (p_14 : (∀ s, Vs s → T0 7 s ≠ 10)) (p_15 : VB (Vs) (bu)) (p_16 : wP T0 (bv) (pc) 18 Vs (T0 36 (p).toNat) (ba) (bb) (bu) (bv)) (p_17 : lP T0 18 (T0 36 (p).toNat) 1 0 (T0 37 (p).toNat) (T0 38 (p).toNat)) (p_18 : 1 ≤ T0 37 (p).toNat) (p_19 : 0 ≤ T0 38 (p).toNat) (p_20 : T0 37 (p).toNat + T0 38 (p).toNat + 3 ≤ 4000) : ∀ (m : Nat) (L : jL) (Gx : Nat → Int) (Ax : Nat → Nat → Int) (qq lb1 lg1 fw1 : Int), (pc - qq).toNat = m → jGet L 0 = some (.ref 66) → jGet L 1 = some (.int (i32 (p))) → jGet L 2 = some (.int (i32 qq)) → Wk Gx Ax → Fr [70, 77, 79, 81, 89] [13, 44, 45, 46, 47, 48, 49, 50, 51, 52, 53, 54, 55, 56, 57, 58] G A Gx Ax → Fo [53] (6000 * p) (6000 * p + 6000) A Ax → Fo [54, 55] (p) (p + 1) A Ax → Gx 77 = lb1 → Gx 79 = lg1 → Ax 51 ((0 : Int)).toNat = fw1 → Gx 81 = (0 : Int) → Gx 89 = (0 : Int) → Gx 70 = (0 : Int) → ((-2147483648 : Int) ≤ qq ∧ qq ≤ 2147483647) → (0 ≤ qq) → (qq ≤ pc) → (lb1 = qq) → (lg1 = 0) → (fw1 = 0) → (FA (fun _ => 0) (0) Ax) → (PE 52 (fun j => j + 1) (0) (qq) Ax) → wj X d jm365 (34, L, [], rV c0 c1 Gx Ax T) (fun o V_q => ∃ (G_q : Nat → Int) (A_q : Nat → Nat → Int) (r : Int) (pc2 : Int), V_q = rV c0 c1 G_q A_q T ∧ o = .inl (some (.int (i32 r))) ∧ Wk G_q A_q ∧ Fr [70, 77, 79, 81, 89] [13, 44, 45, 46, 47, 48, 49, 50, 51, 52, 53, 54, 55, 56, 57, 58] G A G_q A_q ∧ Fo [53] (6000 * p) (6000 * p + 6000) A A_q ∧ Fo [54, 55] (p) (p + 1) A A_q ∧ ((0 : Int) ≤ r ∧ r ≤ 1) ∧ G_q 46 = pc2 ∧ (pc2 = pc) ∧ ((r = 1 ∧ (CP T0 A_q (pc) (p))) ∨ (r = 0))) := by
  have hF0 : Fr [70, 77, 79, 81, 89] [13, 44, 45, 46, 47, 48, 49, 50, 51, 52, 53, 54, 55, 56, 57, 58] G A G A := Fr_rf
  have hWc0 : Fo [53] (6000 * p) (6000 * p + 6000) A A := Fo_rf
  have hXc0 : Fo [54, 55] (p) (p + 1) A A := Fo_rf
  have b_pc : (0 : Int) ≤ pc ∧ pc ≤ 24 := e_pc ▸ hW.1 46
  have hWT := TA_w hW p_0
  intro m
  induction m using Nat.strongRecOn with
  | ind m ih34 =>
    intro L Gx Ax qq lb1 lg1 fw1 hm gL_0 gL_1 gL_2 hWx hFx hWcx hXcx ex_lb1 ex_lg1 ex_fw1 fx_81 fx_89 fx_70 rx_qq iv_0 iv_1 iv_2 iv_3 iv_4 iv_5 iv_6
    have b_lb1 : (-2147483648 : Int) ≤ lb1 ∧ lb1 ≤ 2147483647 := ex_lb1 ▸ hWx.1 77
    have b_lg1 : (0 : Int) ≤ lg1 ∧ lg1 ≤ 1 := ex_lg1 ▸ hWx.1 79
    refine jx_ld (pc_q := 35) (l_q := L) (st_q := [.int (i32 (qq))]) rfl (jl_iloadn gL_2) ?_
    refine jx_ld (pc_q := 36) (l_q := L) (st_q := [.ref 66, .int (i32 (qq))]) rfl (jl_aloadn gL_0) ?_
    refine jr_get (pc_q := 39) (i := 46) (v := .int (i32 (pc))) rfl rfl (by decide) (rFv_eq (by decide) (show Gx 46 = pc from ((hFx.1 46 rfl).trans (e_pc)))) rfl ?_
    refine jx_icmp_ge (pc_q := 42) (tg := 58) rfl rfl rfl (Int.le_trans (by decide : (-2147483648 : Int) ≤ -2147483648) rx_qq.1) (Int.le_trans rx_qq.2 (by decide : (2147483647 : Int) ≤ 2147483647)) (Int.le_trans (by decide : (-2147483648 : Int) ≤ 0) b_pc.1) (Int.le_trans b_pc.2 (by decide : (24 : Int) ≤ 2147483647)) (fun h247 => ?_) (fun h247 => ?_)
    · have _q := h247
      have hL0 : Lx (0 : Int).toNat = 1 := (p_5).1
      refine jx_ar (pc_q := 59) (st_q := [.int (i32 (0))]) rfl rfl rfl rfl ?_
      refine jx_ld (pc_q := 60) (l_q := jSto1 L 2 (.int (i32 (0)))) (st_q := []) rfl rfl ?_
      obtain ⟨L248, eL248⟩ : ∃ q, q = jSto1 L 2 (.int (i32 (0))) := ⟨_, rfl⟩
      rw [← eL248]
      have gL248_0 : jGet L248 0 = some (.ref 66) := eL248 ▸ jg_ne (by decide) gL_0 rfl
      have gL248_1 : jGet L248 1 = some (.int (i32 (p))) := eL248 ▸ jg_ne (by decide) gL_1 rfl
      have gL248_2 : jGet L248 2 = some (.int (i32 (0))) := eL248 ▸ jg_eq
      exact c_genAll_at_60 (X := X) (d := d) (T0 := T0) (Lx := Lx) (Sx := Sx) (Vs := Vs) (ba := ba) (bb := bb) (bu := bu) (bv := bv) (c0 := c0) (c1 := c1) (G := G) (A := A) (T := T) (p := p) (pc := pc) (hd := hd) (hW := hW) (e_pc := e_pc) (h_p := h_p) (p_0 := p_0) (p_1 := p_1) (p_2 := p_2) (p_3 := p_3) (p_4 := p_4) (p_5 := p_5) (p_6 := p_6) (p_7 := p_7) (p_8 := p_8) (p_9 := p_9) (p_10 := p_10) (p_11 := p_11) (p_12 := p_12) (p_13 := p_13) (p_14 := p_14) (p_15 := p_15) (p_16 := p_16) (p_17 := p_17) (p_18 := p_18) (p_19 := p_19) (p_20 := p_20) _ L248 Gx Ax (0) ((0 : Int)) (lg1) (lb1) (fw1) (1) (0) rfl gL248_0 gL248_1 gL248_2 hWx hFx hWcx hXcx ((fx_70)) ((ex_lg1)) ((ex_lb1)) ((ex_fw1)) ((fx_81)) ((fx_89)) (by omega) (by omega) (by omega) (by omega) (by omega) (by omega) (by omega) (by omega) (by omega) (by omega) ((show (0 : Int) = 200000 * (_ - _) by omega)) (by omega) (iv_5) ((PE_i (by omega) iv_6)) ((Cd_mk (fun hC => (gPq_0 rfl (by omega) (by omega) rfl (by omega)))))
    · have _q := h247
      have _q : True := trivial
      refine jx_ld (pc_q := 43) (l_q := L) (st_q := [.ref 66]) rfl (jl_aloadn gL_0) ?_
      refine jr_get (pc_q := 46) (i := 82) (v := .ref 119) rfl rfl (by decide) rfl rfl ?_
      refine jx_ld (pc_q := 47) (l_q := L) (st_q := [.int (i32 (qq)), .ref 119]) rfl (jl_iloadn gL_2) ?_
      refine jx_ld (pc_q := 48) (l_q := L) (st_q := [.ref 66, .int (i32 (qq)), .ref 119]) rfl (jl_aloadn gL_0) ?_
      refine jx_vr (pc_q := 51) (as := []) (st := [.int (i32 (qq)), .ref 119]) rfl rfl rfl rfl ⟨rfl, rfl, Nat.le_of_ble_eq_true rfl⟩ rfl rfl (c_label (dd := d) (hd := by omega) (hW := hWx)  (lb := lb1) (e_lb := show Gx 77 = lb1 from (ex_lb1))    (p_0 := by omega) (p_1 := by omega)) (fun o V_q hq => ?_)
      obtain ⟨G249, A250, r251, lb2_252, rfl, rfl, hW253, hF254, b255, e256, p257, p258, p259, p260, -⟩ := hq
      have hF262 := Fr_tr hFx hF254 (Fr_sub (by decide)) (Fr_sub (by decide))
      have hWc263 := Fo_f hWcx hF254 (by decide)
      have hXc264 := Fo_f hXcx hF254 (by decide)
      have sf265 := FA_fr (hF254.2 51 rfl) iv_5
      have sf266 : PE 52 (fun j => j + 1) (0) (qq) A250 := PE_fr (hF254.2 52 rfl) iv_6
      have blb2_252 : (-2147483648 : Int) ≤ lb2_252 ∧ lb2_252 ≤ 2147483647 := e256 ▸ hW253.1 77
      refine .inr ⟨_, rfl, ?_⟩
      refine jr_st (pc_q := 52) (i := 52) (m := 25) (z := qq) (y := r251) rfl (by decide) rfl (by decide) (by omega) (by omega) rfl ?_
      have hW268 : Wk G249 (uA A250 52 (qq).toNat (r251)) := Wk_a hW253 (show (-2147483648 : Int) ≤ r251 by omega) (show r251 ≤ (2147483647 : Int) by omega)
      have hF269 := Fr_a (z := r251) (k := 52) (n := (qq).toNat) hF262 (by decide)
      obtain ⟨A267, eA267⟩ : ∃ q, q = uA A250 52 (qq).toNat (r251) := ⟨_, rfl⟩
      rw [← eA267]
      rw [← eA267] at hW268 hF269
      have q270 : A267 52 (qq).toNat = r251 := by rw [eA267]; exact uA_eq
      have hWc271 : Fo [53] (6000 * p) (6000 * p + 6000) A A267 := eA267 ▸ Fo_n hWc263 rfl
      have hXc272 : Fo [54, 55] (p) (p + 1) A A267 := eA267 ▸ Fo_n hXc264 rfl
      have sf273 := FA_fr ((congrFun eA267 51).trans (uA_ne (by decide))) sf265
      have sf274 : PE 52 (fun j => j + 1) (0) ((qq + 1)) A267 := PE_nx eA267 (by omega) (by omega) (by omega) (by omega) (show qq + 1 = r251 by have hr := Cd_ap p260 (by omega); omega) sf266
      refine jx_inc (pc_q := 55) (l_q := jSto1 L 2 (.int (i32 ((qq + (1)))))) (x := qq) rfl gL_2 (by decide) rfl rfl ?_
      obtain ⟨L275, eL275⟩ : ∃ q, q = jSto1 L 2 (.int (i32 ((qq + (1))))) := ⟨_, rfl⟩
      rw [← eL275]
      have gL275_0 : jGet L275 0 = some (.ref 66) := eL275 ▸ jg_ne (by decide) gL_0 rfl
      have gL275_1 : jGet L275 1 = some (.int (i32 (p))) := eL275 ▸ jg_ne (by decide) gL_1 rfl
      have gL275_2 : jGet L275 2 = some (.int (i32 ((qq + (1))))) := eL275 ▸ jg_eq
      refine jx_go (tg := 34) rfl rfl ?_
      exact ih34 _ (by omega) L275 G249 A267 ((qq + (1))) (lb2_252) (lg1) (fw1) rfl gL275_0 gL275_1 gL275_2 hW268 hF269 hWc271 hXc272 ((e256)) (((hF254.1 79 rfl).trans (ex_lg1))) ((congrFun (((congrFun eA267 51).trans (uA_ne (by decide))).trans (hF254.2 51 rfl)) _).trans (ex_fw1)) (((hF254.1 81 rfl).trans (fx_81))) (((hF254.1 89 rfl).trans (fx_89))) (((hF254.1 70 rfl).trans (fx_70))) (by omega) (by omega) (by omega) (by omega) (by omega) (by omega) (sf273) ((PE_i (by omega) sf274))
set_option maxRecDepth 20000 in
set_option maxHeartbeats 4000000 in
theorem c_genAll {X : jX} {dd : Nat} {T0 : Nat → Nat → Int} {Lx Sx : Nat → Int} {Vs : Nat → Prop} {ba bb bu bv : Int} {c0 c1 : jC} {G : Nat → Int} {A : Nat → Nat → Int} {T : jH} {p : Int} {pc : Int} (hd : 2 * 18 + 63 ≤ dd) (hW : Wk G A) (e_pc : G 46 = pc) (h_p : (-2147483648 : Int) ≤ p ∧ p ≤ 2147483647) (p_0 : TA T0 A) (p_1 : 0 ≤ p) (p_2 : p ≤ 5) (p_3 : 0 ≤ pc) (p_4 : pc ≤ 24) (p_5 : CW T0 Lx Sx (pc)) (p_6 : MQa T0 T0 (pc) 1) (p_7 : Sx (pc).toNat ≤ 202) (p_8 : Lx (pc).toNat ≤ ba) (p_9 : ba ≤ bb) (p_10 : bb ≤ 6999) (p_11 : bv ≤ 202) (p_12 : 0 ≤ bu) (p_13 : VW T0 Vs (0)) (p_14 : (∀ s, Vs s → T0 7 s ≠ 10)) (p_15 : VB (Vs) (bu)) (p_16 : wP T0 (bv) (pc) 18 Vs (T0 36 (p).toNat) (ba) (bb) (bu) (bv)) (p_17 : lP T0 18 (T0 36 (p).toNat) 1 0 (T0 37 (p).toNat) (T0 38 (p).toNat)) (p_18 : 1 ≤ T0 37 (p).toNat) (p_19 : 0 ≤ T0 38 (p).toNat) (p_20 : T0 37 (p).toNat + T0 38 (p).toNat + 3 ≤ 4000) : wk X dd 365 [.ref 66, .int (i32 p)] (rV c0 c1 G A T) (fun o V_q => ∃ (G_q : Nat → Int) (A_q : Nat → Nat → Int) (r : Int) (pc2 : Int), V_q = rV c0 c1 G_q A_q T ∧ o = .inl (some (.int (i32 r))) ∧ Wk G_q A_q ∧ Fr [70, 77, 79, 81, 89] [13, 44, 45, 46, 47, 48, 49, 50, 51, 52, 53, 54, 55, 56, 57, 58] G A G_q A_q ∧ Fo [53] (6000 * p) (6000 * p + 6000) A A_q ∧ Fo [54, 55] (p) (p + 1) A A_q ∧ ((0 : Int) ≤ r ∧ r ≤ 1) ∧ G_q 46 = pc2 ∧ (pc2 = pc) ∧ ((r = 1 ∧ (CP T0 A_q (pc) (p))) ∨ (r = 0))) := by
  obtain ⟨d, rfl⟩ : ∃ d, dd = d + 1 := ⟨dd - 1, by omega⟩
  refine wk_of (e := jm365) rfl (Nat.le_of_ble_eq_true rfl) ?_
  show wj X d jm365 (0, [(0, .ref 66), (1, .int (i32 (p)))], [], rV c0 c1 G A T) _
  have hF0 : Fr [70, 77, 79, 81, 89] [13, 44, 45, 46, 47, 48, 49, 50, 51, 52, 53, 54, 55, 56, 57, 58] G A G A := Fr_rf
  have hWc0 : Fo [53] (6000 * p) (6000 * p + 6000) A A := Fo_rf
  have hXc0 : Fo [54, 55] (p) (p + 1) A A := Fo_rf
  have b_pc : (0 : Int) ≤ pc ∧ pc ≤ 24 := e_pc ▸ hW.1 46
  have hWT := TA_w hW p_0
  refine jx_ld (pc_q := 1) (l_q := [(0, .ref 66), (1, .int (i32 (p)))]) (st_q := [.ref 66]) rfl (jl_aloadn rfl) ?_
  refine jx_ar (pc_q := 2) (st_q := [.int (i32 (0)), .ref 66]) rfl rfl rfl rfl ?_
  refine jr_put (pc_q := 5) (i := 70) (z := 0) rfl rfl (by decide) rfl rfl rfl rfl rfl rfl ?_
  have hW276 : Wk (uG G 70 (0)) A := Wk_g hW (show (-2147483648 : Int) ≤ 0 by omega) (show 0 ≤ (2147483647 : Int) by omega)
  have hF277 := Fr_g (z := 0) (i := 70) hF0 (by decide)
  refine jx_ld (pc_q := 6) (l_q := [(0, .ref 66), (1, .int (i32 (p)))]) (st_q := [.ref 66]) rfl (jl_aloadn rfl) ?_
  refine jx_ar (pc_q := 7) (st_q := [.int (i32 (0)), .ref 66]) rfl rfl rfl rfl ?_
  refine jr_put (pc_q := 10) (i := 77) (z := 0) rfl rfl (by decide) rfl rfl rfl rfl rfl rfl ?_
  have hW278 : Wk (uG (uG G 70 (0)) 77 (0)) A := Wk_g hW276 (show (-2147483648 : Int) ≤ 0 by omega) (show 0 ≤ (2147483647 : Int) by omega)
  have hF279 := Fr_g (z := 0) (i := 77) hF277 (by decide)
  refine jx_ld (pc_q := 11) (l_q := [(0, .ref 66), (1, .int (i32 (p)))]) (st_q := [.ref 66]) rfl (jl_aloadn rfl) ?_
  refine jx_ar (pc_q := 12) (st_q := [.int (i32 (0)), .ref 66]) rfl rfl rfl rfl ?_
  refine jr_put (pc_q := 15) (i := 79) (z := 0) rfl rfl (by decide) rfl rfl rfl (jFit_b (by omega) (by omega)) rfl rfl ?_
  have hW280 : Wk (uG (uG (uG G 70 (0)) 77 (0)) 79 (0)) A := Wk_g hW278 (show (0 : Int) ≤ 0 by omega) (show 0 ≤ (1 : Int) by omega)
  have hF281 := Fr_g (z := 0) (i := 79) hF279 (by decide)
  refine jx_ld (pc_q := 16) (l_q := [(0, .ref 66), (1, .int (i32 (p)))]) (st_q := [.ref 66]) rfl (jl_aloadn rfl) ?_
  refine jx_ar (pc_q := 17) (st_q := [.int (i32 (0)), .ref 66]) rfl rfl rfl rfl ?_
  refine jr_put (pc_q := 20) (i := 81) (z := 0) rfl rfl (by decide) rfl rfl rfl rfl rfl rfl ?_
  have hW282 : Wk (uG (uG (uG (uG G 70 (0)) 77 (0)) 79 (0)) 81 (0)) A := Wk_g hW280 (show (-2147483648 : Int) ≤ 0 by omega) (show 0 ≤ (2147483647 : Int) by omega)
  have hF283 := Fr_g (z := 0) (i := 81) hF281 (by decide)
  refine jx_ld (pc_q := 21) (l_q := [(0, .ref 66), (1, .int (i32 (p)))]) (st_q := [.ref 66]) rfl (jl_aloadn rfl) ?_
  refine jx_ar (pc_q := 22) (st_q := [.int (i32 (0)), .ref 66]) rfl rfl rfl rfl ?_
  refine jr_put (pc_q := 25) (i := 89) (z := 0) rfl rfl (by decide) rfl rfl rfl rfl rfl rfl ?_
  have hW284 : Wk (uG (uG (uG (uG (uG G 70 (0)) 77 (0)) 79 (0)) 81 (0)) 89 (0)) A := Wk_g hW282 (show (-2147483648 : Int) ≤ 0 by omega) (show 0 ≤ (2147483647 : Int) by omega)
  have hF285 := Fr_g (z := 0) (i := 89) hF283 (by decide)
  refine jx_ld (pc_q := 26) (l_q := [(0, .ref 66), (1, .int (i32 (p)))]) (st_q := [.ref 66]) rfl (jl_aloadn rfl) ?_
  refine jr_get (pc_q := 29) (i := 80) (v := .ref 118) rfl rfl (by decide) rfl rfl ?_
  refine jx_ar (pc_q := 30) (st_q := [.int (i32 (0)), .ref 118]) rfl rfl rfl rfl ?_
  refine jx_ar (pc_q := 31) (st_q := [.int (i32 (0)), .int (i32 (0)), .ref 118]) rfl rfl rfl rfl ?_
  refine jr_st (pc_q := 32) (i := 51) (m := 40) (z := (0 : Int)) (y := 0) rfl (by decide) rfl (by decide) (by omega) (by omega) rfl ?_
  have hW287 : Wk (uG (uG (uG (uG (uG G 70 (0)) 77 (0)) 79 (0)) 81 (0)) 89 (0)) (uA A 51 ((0 : Int)).toNat (0)) := Wk_a hW284 (show (-2147483648 : Int) ≤ 0 by omega) (show 0 ≤ (2147483647 : Int) by omega)
  have hF288 := Fr_a (z := 0) (k := 51) (n := ((0 : Int)).toNat) hF285 (by decide)
  obtain ⟨A286, eA286⟩ : ∃ q, q = uA A 51 ((0 : Int)).toNat (0) := ⟨_, rfl⟩
  rw [← eA286]
  rw [← eA286] at hW287 hF288
  have q289 : A286 51 ((0 : Int)).toNat = 0 := by rw [eA286]; exact uA_eq
  have hWc290 : Fo [53] (6000 * p) (6000 * p + 6000) A A286 := eA286 ▸ Fo_n hWc0 rfl
  have hXc291 : Fo [54, 55] (p) (p + 1) A A286 := eA286 ▸ Fo_n hXc0 rfl
  have hFA0 := FA_00 eA286 rfl rfl
  refine jx_ar (pc_q := 33) (st_q := [.int (i32 (0))]) rfl rfl rfl rfl ?_
  refine jx_ld (pc_q := 34) (l_q := jSto1 [(0, .ref 66), (1, .int (i32 (p)))] 2 (.int (i32 (0)))) (st_q := []) rfl rfl ?_
  obtain ⟨L292, eL292⟩ : ∃ q, q = jSto1 [(0, .ref 66), (1, .int (i32 (p)))] 2 (.int (i32 (0))) := ⟨_, rfl⟩
  rw [← eL292]
  have gL292_0 : jGet L292 0 = some (.ref 66) := eL292 ▸ jg_ne (by decide) (rfl : jGet [(0, .ref 66), (1, .int (i32 (p)))] 0 = some (.ref 66)) rfl
  have gL292_1 : jGet L292 1 = some (.int (i32 (p))) := eL292 ▸ jg_ne (by decide) (rfl : jGet [(0, .ref 66), (1, .int (i32 (p)))] 1 = some (.int (i32 (p)))) rfl
  have gL292_2 : jGet L292 2 = some (.int (i32 (0))) := eL292 ▸ jg_eq
  exact c_genAll_at_34 (X := X) (d := d) (T0 := T0) (Lx := Lx) (Sx := Sx) (Vs := Vs) (ba := ba) (bb := bb) (bu := bu) (bv := bv) (c0 := c0) (c1 := c1) (G := G) (A := A) (T := T) (p := p) (pc := pc) (hd := hd) (hW := hW) (e_pc := e_pc) (h_p := h_p) (p_0 := p_0) (p_1 := p_1) (p_2 := p_2) (p_3 := p_3) (p_4 := p_4) (p_5 := p_5) (p_6 := p_6) (p_7 := p_7) (p_8 := p_8) (p_9 := p_9) (p_10 := p_10) (p_11 := p_11) (p_12 := p_12) (p_13 := p_13) (p_14 := p_14) (p_15 := p_15) (p_16 := p_16) (p_17 := p_17) (p_18 := p_18) (p_19 := p_19) (p_20 := p_20) _ L292 (uG (uG (uG (uG (uG G 70 (0)) 77 (0)) 79 (0)) 81 (0)) 89 (0)) A286 (0) (0) (0) (0) rfl gL292_0 gL292_1 gL292_2 hW287 hF288 hWc290 hXc291 (rfl) (rfl) ((q289)) (Eq.trans (show (uG (uG (uG (uG (uG G 70 (0)) 77 (0)) 79 (0)) 81 (0)) 89 (0)) 81 = 0 from rfl) (by omega)) (Eq.trans (show (uG (uG (uG (uG (uG G 70 (0)) 77 (0)) 79 (0)) 81 (0)) 89 (0)) 89 = 0 from rfl) (by omega)) (Eq.trans (show (uG (uG (uG (uG (uG G 70 (0)) 77 (0)) 79 (0)) 81 (0)) 89 (0)) 70 = 0 from rfl) (by omega)) (by omega) (by omega) (by omega) (by omega) (by omega) (by omega) (hFA0) ((PE_0 (by omega)))
