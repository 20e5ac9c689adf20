/-! checkUses -/
set_option maxRecDepth 20000 in
set_option maxHeartbeats 4000000 in
theorem c_checkUses_at_103 {X : jX} {d : Nat} {T0 : Nat → Nat → Int} {nd : Int} {VF VG : Int → Nat → Prop} {LO HI S0 S1 LP HP S2 S3 : Int → Int} {FF FG : Int → Int → Int → Int → Prop} {c0 c1 : jC} {G : Nat → Int} {A : Nat → Nat → Int} {T : jH} {pc : Int} (hd : 140 ≤ d + 1) (hW : Wk G A) (e_pc : G 46 = pc) (p_0 : TA T0 A) (p_1 : CUs T0 nd pc VF LO HI S0 S1 FF) (p_2 : CUt T0 nd pc VG LP HP S2 S3 FG) (p_3 : MRx T0 A nd) (p_4 : nd ≤ 6999) : ∀ (m : Nat) (L : jL) (Gx : Nat → Int) (Ax : Nat → Nat → Int) (p wl1 : Int), (6 - p).toNat = m → jGet L 0 = some (.ref 66) → jGet L 1 = some (.int (i32 p)) → Wk Gx Ax → Fr [61, 62, 67, 68] [11, 13, 39, 40, 41, 42, 43] G A Gx Ax → Gx 67 = wl1 → ((-2147483648 : Int) ≤ p ∧ p ≤ 2147483647) → (0 ≤ p) → (p ≤ 6) → (-1 ≤ wl1 ∧ wl1 ≤ 3000) → (CUq T0 Ax (wl1) (pc)) → (CUp T0 Ax (wl1) (p)) → wj X d jm341 (103, L, [], rV c0 c1 Gx Ax T) (fun o V_q => ∃ (G_q : Nat → Int) (A_q : Nat → Nat → Int) (r : Int) (wl2 : Int), V_q = rV c0 c1 G_q A_q T ∧ o = .inl (some (.int (i32 r))) ∧ Wk G_q A_q ∧ Fr [61, 62, 67, 68] [11, 13, 39, 40, 41, 42, 43] G A G_q A_q ∧ ((0 : Int) ≤ r ∧ r ≤ 1) ∧ G_q 67 = wl2 ∧ (-1 ≤ wl2 ∧ wl2 ≤ 3000) ∧ ((r = 1 ∧ (CUq T0 A_q (-1) (pc)) ∧ (CUp T0 A_q (-1) (6))) ∨ (r = 0))) := by
  have hF0 : Fr [61, 62, 67, 68] [11, 13, 39, 40, 41, 42, 43] G A G A := Fr_rf
  have b_pc : (0 : Int) ≤ pc ∧ pc ≤ 24 := e_pc ▸ hW.1 46
  have hWT := TA_w hW p_0
  intro m
  induction m using Nat.strongRecOn with
  | ind m ih103 =>
    intro L Gx Ax p wl1 hm gL_0 gL_1 hWx hFx ex_wl1 rx_p iv_0 iv_1 iv_2 iv_3 iv_4
    have b_wl1 : (-2147483648 : Int) ≤ wl1 ∧ wl1 ≤ 2147483647 := ex_wl1 ▸ hWx.1 67
    have _q : True := trivial
    refine jx_ld (pc_q := 104) (l_q := L) (st_q := [.int (i32 (p))]) rfl (jl_iloadn gL_1) ?_
    refine jx_ar (pc_q := 106) (st_q := [.int (i32 (6)), .int (i32 (p))]) rfl rfl rfl rfl ?_
    refine jx_icmp_ge (pc_q := 109) (tg := 139) rfl rfl rfl (Int.le_trans (by decide : (-2147483648 : Int) ≤ -2147483648) rx_p.1) (Int.le_trans rx_p.2 (by decide : (2147483647 : Int) ≤ 2147483647)) (by decide) (by decide) (fun h1 => ?_) (fun h1 => ?_)
    · have _q := h1
      have _q : True := trivial
      refine jx_ld (pc_q := 140) (l_q := L) (st_q := [.ref 66]) rfl (jl_aloadn gL_0) ?_
      refine jr_get (pc_q := 143) (i := 67) (v := .int (i32 (wl1))) rfl rfl (by decide) (rFv_eq (by decide) (show Gx 67 = wl1 from (ex_wl1))) rfl ?_
      refine jx_ar (pc_q := 144) (st_q := [.int (i32 (-1)), .int (i32 (wl1))]) rfl rfl rfl rfl ?_
      refine jx_icmp_ne (pc_q := 147) (tg := 151) rfl rfl rfl (Int.le_trans (by decide : (-2147483648 : Int) ≤ -2147483648) b_wl1.1) (Int.le_trans b_wl1.2 (by decide : (2147483647 : Int) ≤ 2147483647)) (by decide) (by decide) (fun h2 => ?_) (fun h2 => ?_)
      · have _q := h2
        refine jx_ar (pc_q := 152) (st_q := [.int (i32 (0))]) rfl rfl rfl rfl ?_
        refine jx_rt (v := some (.int (i32 (0)))) rfl rfl rfl rfl rfl (by first | rfl | exact jRet_b (by omega)) ?_
        exact ⟨_, _, _, wl1, rfl, rfl, hWx, hFx, by omega, (ex_wl1), by omega, by first | exact Or.inl (⟨by omega, (CUq_e rfl (fun w i a b => iv_3 (by omega) i a b)), (fun w i a b => iv_4 (by omega) i a (by omega))⟩) | exact Or.inr ((by omega))⟩
      · have _q := h2
        refine jx_ar (pc_q := 148) (st_q := [.int (i32 (1))]) rfl rfl rfl rfl ?_
        refine jx_go (tg := 152) rfl rfl ?_
        refine jx_rt (v := some (.int (i32 (1)))) rfl rfl rfl rfl rfl (by first | rfl | exact jRet_b (by omega)) ?_
        exact ⟨_, _, _, wl1, rfl, rfl, hWx, hFx, by omega, (ex_wl1), by omega, by first | exact Or.inl (⟨by omega, (CUq_e rfl (fun w i a b => iv_3 (by omega) i a b)), (fun w i a b => iv_4 (by omega) i a (by omega))⟩) | exact Or.inr ((by omega))⟩
    · have _q := h1
      refine jx_ld (pc_q := 110) (l_q := L) (st_q := [.ref 66]) rfl (jl_aloadn gL_0) ?_
      refine jx_ld (pc_q := 111) (l_q := L) (st_q := [.int (i32 (p)), .ref 66]) rfl (jl_iloadn gL_1) ?_
      refine jr_put (pc_q := 114) (i := 68) (z := p) rfl rfl (by decide) rfl rfl rfl rfl rfl rfl ?_
      have hW3 : Wk (uG Gx 68 (p)) Ax := Wk_g hWx (show (-2147483648 : Int) ≤ p by omega) (show p ≤ (2147483647 : Int) by omega)
      have hF4 := Fr_g (z := p) (i := 68) hFx (by decide)
      refine jx_ld (pc_q := 115) (l_q := L) (st_q := [.ref 66]) rfl (jl_aloadn gL_0) ?_
      refine jr_get (pc_q := 118) (i := 55) (v := .ref 103) rfl rfl (by decide) rfl rfl ?_
      refine jx_ld (pc_q := 119) (l_q := L) (st_q := [.int (i32 (p)), .ref 103]) rfl (jl_iloadn gL_1) ?_
      have b5 : (-2147483648 : Int) ≤ T0 36 (p).toNat ∧ T0 36 (p).toNat ≤ 2147483647 := hWT.2 36 _
      refine jr_ldv (pc_q := 120) (i := 36) (m := 6) (z := p) (y := T0 36 (p).toNat) rfl (by decide) rfl (by decide) (by omega) (by omega) rfl (show Ax 36 (p).toNat = T0 36 (p).toNat from (congrFun ((hFx.2 36 rfl).trans (p_0 36 rfl)) _)) ?_
      refine jx_if_le (pc_q := 123) (tg := 133) rfl rfl rfl (Int.le_trans (by decide : (-2147483648 : Int) ≤ -2147483648) b5.1) (Int.le_trans b5.2 (by decide : (2147483647 : Int) ≤ 2147483647)) (fun h6 => ?_) (fun h6 => ?_)
      · have _q := h6
        refine jx_inc (pc_q := 136) (l_q := jSto1 L 1 (.int (i32 ((p + (1)))))) (x := p) rfl gL_1 (by decide) rfl rfl ?_
        obtain ⟨L7, eL7⟩ : ∃ q, q = jSto1 L 1 (.int (i32 ((p + (1))))) := ⟨_, rfl⟩
        rw [← eL7]
        have gL7_0 : jGet L7 0 = some (.ref 66) := eL7 ▸ jg_ne (by decide) gL_0 rfl
        have gL7_1 : jGet L7 1 = some (.int (i32 ((p + (1))))) := eL7 ▸ jg_eq
        refine jx_go (tg := 103) rfl rfl ?_
        exact ih103 _ (by omega) L7 (uG Gx 68 (p)) Ax ((p + (1))) (wl1) rfl gL7_0 gL7_1 hW3 hF4 ((ex_wl1)) (by omega) (by omega) (by omega) (by omega) ((CUq_e rfl (fun w i a b => iv_3 (by omega) i a b))) ((CUp_nx rfl iv_4 rfl (by omega) (fun w h => by omega)))
      · have _q := h6
        have hRp := p_2 p (by omega) (by omega) (by omega); have htb := hRp.2.1; have hti := wP_in hRp.1
        refine jx_ld (pc_q := 124) (l_q := L) (st_q := [.ref 66]) rfl (jl_aloadn gL_0) ?_
        refine jx_ld (pc_q := 125) (l_q := L) (st_q := [.ref 66, .ref 66]) rfl (jl_aloadn gL_0) ?_
        refine jr_get (pc_q := 128) (i := 55) (v := .ref 103) rfl rfl (by decide) rfl rfl ?_
        refine jx_ld (pc_q := 129) (l_q := L) (st_q := [.int (i32 (p)), .ref 103, .ref 66]) rfl (jl_iloadn gL_1) ?_
        refine jr_ldv (pc_q := 130) (i := 36) (m := 6) (z := p) (y := T0 36 (p).toNat) rfl (by decide) rfl (by decide) (by omega) (by omega) rfl (show Ax 36 (p).toNat = T0 36 (p).toNat from (congrFun ((hFx.2 36 rfl).trans (p_0 36 rfl)) _)) ?_
        refine jx_vr (pc_q := 133) (as := [.int (i32 (T0 36 (p).toNat))]) (st := []) rfl rfl rfl rfl ⟨rfl, rfl, Nat.le_of_ble_eq_true rfl⟩ rfl rfl (c_check_t (dd := d) (hd := by omega) (hW := hW3) (p := T0 36 (p).toNat) (wl := wl1) (e_wl := show (uG Gx 68 (p)) 67 = wl1 from (ex_wl1)) (wh := p) (e_wh := show (uG Gx 68 (p)) 68 = p from rfl)  (h_p := ⟨(Int.le_trans (by decide : (-2147483648 : Int) ≤ -2147483648) b5.1), (Int.le_trans b5.2 (by decide : (2147483647 : Int) ≤ 2147483647))⟩)  (p_0 := (TA_fr hF4 (by decide) p_0)) (p_1 := hRp) (p_2 := (MR_fr (show Ax 16 = A 16 from (hFx.2 16 rfl)) (show Ax 28 = A 28 from (hFx.2 28 rfl)) p_3)) (p_3 := by omega) (p_4 := by omega)) (fun o V_q hq => ?_)
        obtain ⟨G8, A9, wl2_10, rfl, rfl, hW11, hF12, e13, p14, p15, p16, -⟩ := hq
        have hF18 := Fr_tr hF4 hF12 (Fr_sub (by decide)) (Fr_sub (by decide))
        have bwl2_10 : (-2147483648 : Int) ≤ wl2_10 ∧ wl2_10 ≤ 2147483647 := e13 ▸ hW11.1 67
        refine .inl ⟨rfl, ?_⟩
        refine jx_inc (pc_q := 136) (l_q := jSto1 L 1 (.int (i32 ((p + (1)))))) (x := p) rfl gL_1 (by decide) rfl rfl ?_
        obtain ⟨L19, eL19⟩ : ∃ q, q = jSto1 L 1 (.int (i32 ((p + (1))))) := ⟨_, rfl⟩
        rw [← eL19]
        have gL19_0 : jGet L19 0 = some (.ref 66) := eL19 ▸ jg_ne (by decide) gL_0 rfl
        have gL19_1 : jGet L19 1 = some (.int (i32 ((p + (1))))) := eL19 ▸ jg_eq
        refine jx_go (tg := 103) rfl rfl ?_
        exact ih103 _ (by omega) L19 G8 A9 ((p + (1))) (wl2_10) rfl gL19_0 gL19_1 hW11 hF18 ((e13)) (by omega) (by omega) (by omega) (by omega) ((CUq_e (hF12.2 11 rfl) (fun w i a b => iv_3 (by omega) i a b))) ((CUp_nx rfl iv_4 (hF12.2 11 rfl) (by omega) (fun w _ => p16 w)))
set_option maxRecDepth 20000 in
set_option maxHeartbeats 4000000 in
theorem c_checkUses_at_7 {X : jX} {d : Nat} {T0 : Nat → Nat → Int} {nd : Int} {VF VG : Int → Nat → Prop} {LO HI S0 S1 LP HP S2 S3 : Int → Int} {FF FG : Int → Int → Int → Int → Prop} {c0 c1 : jC} {G : Nat → Int} {A : Nat → Nat → Int} {T : jH} {pc : Int} (hd : 140 ≤ d + 1) (hW : Wk G A) (e_pc : G 46 = pc) (p_0 : TA T0 A) (p_1 : CUs T0 nd pc VF LO HI S0 S1 FF) (p_2 : CUt T0 nd pc VG LP HP S2 S3 FG) (p_3 : MRx T0 A nd) (p_4 : nd ≤ 6999) : ∀ (m : Nat) (L : jL) (Gx : Nat → Int) (Ax : Nat → Nat → Int) (pq wl1 : Int), (pc - pq).toNat = m → jGet L 0 = some (.ref 66) → jGet L 1 = some (.int (i32 pq)) → Wk Gx Ax → Fr [61, 62, 67, 68] [11, 13, 39, 40, 41, 42, 43] G A Gx Ax → Gx 67 = wl1 → ((-2147483648 : Int) ≤ pq ∧ pq ≤ 2147483647) → (0 ≤ pq) → (pq ≤ pc) → (-1 ≤ wl1 ∧ wl1 ≤ 3000) → (CUq T0 Ax (wl1) (pq)) → wj X d jm341 (7, L, [], rV c0 c1 Gx Ax T) (fun o V_q => ∃ (G_q : Nat → Int) (A_q : Nat → Nat → Int) (r : Int) (wl2 : Int), V_q = rV c0 c1 G_q A_q T ∧ o = .inl (some (.int (i32 r))) ∧ Wk G_q A_q ∧ Fr [61, 62, 67, 68] [11, 13, 39, 40, 41, 42, 43] G A G_q A_q ∧ ((0 : Int) ≤ r ∧ r ≤ 1) ∧ G_q 67 = wl2 ∧ (-1 ≤ wl2 ∧ wl2 ≤ 3000) ∧ ((r = 1 ∧ (CUq T0 A_q (-1) (pc)) ∧ (CUp T0 A_q (-1) (6))) ∨ (r = 0))) := by
  have hF0 : Fr [61, 62, 67, 68] [11, 13, 39, 40, 41, 42, 43] G A G A := Fr_rf
  have b_pc : (0 : Int) ≤ pc ∧ pc ≤ 24 := e_pc ▸ hW.1 46
  have hWT := TA_w hW p_0
  intro m
  induction m using Nat.strongRecOn with
  | ind m ih7 =>
    intro L Gx Ax pq wl1 hm gL_0 gL_1 hWx hFx ex_wl1 rx_pq iv_0 iv_1 iv_2 iv_3
    have b_wl1 : (-2147483648 : Int) ≤ wl1 ∧ wl1 ≤ 2147483647 := ex_wl1 ▸ hWx.1 67
    obtain ⟨Aq, eAq⟩ : ∃ z, z = Ax := ⟨_, rfl⟩; have hcq : CUq T0 Aq wl1 pq := (by rw [eAq]; exact iv_3)
    have at_37 : ∀ (m : Nat) (L : jL) (Gx : Nat → Int) (Ax : Nat → Nat → Int) (kk us1 wl3 : Int) (Ab : Nat → Nat → Int) (Au : Nat → Nat → Int), (us1 - kk).toNat = m → jGet L 0 = some (.ref 66) → jGet L 1 = some (.int (i32 (pq))) → jGet L 2 = some (.int (i32 kk)) → Wk Gx Ax → Fr [61, 62, 67, 68] [11, 13, 39, 40, 41, 42, 43] G A Gx Ax → Gx 61 = us1 → Gx 67 = wl3 → ((-2147483648 : Int) ≤ kk ∧ kk ≤ 2147483647) → (0 ≤ kk) → (kk ≤ us1) → (us1 ≤ 7324) → (wl3 = wl1) → (pq < pc) → (IN T0 Aq Ab Au Ax (VF pq) (S0 pq) (T0 31 (pq).toNat) (us1) (kk)) → wj X d jm341 (37, L, [], rV c0 c1 Gx Ax T) (fun o V_q => ∃ (G_q : Nat → Int) (A_q : Nat → Nat → Int) (r : Int) (wl2 : Int), V_q = rV c0 c1 G_q A_q T ∧ o = .inl (some (.int (i32 r))) ∧ Wk G_q A_q ∧ Fr [61, 62, 67, 68] [11, 13, 39, 40, 41, 42, 43] G A G_q A_q ∧ ((0 : Int) ≤ r ∧ r ≤ 1) ∧ G_q 67 = wl2 ∧ (-1 ≤ wl2 ∧ wl2 ≤ 3000) ∧ ((r = 1 ∧ (CUq T0 A_q (-1) (pc)) ∧ (CUp T0 A_q (-1) (6))) ∨ (r = 0))) := by
      intro m
      induction m using Nat.strongRecOn with
      | ind m ih37 =>
        intro L Gx Ax kk us1 wl3 Ab Au hm gL_0 gL_1 gL_2 hWx hFx ex_us1 ex_wl3 rx_kk iv_0 iv_1 iv_2 iv_3 iv_4 iv_5
        have b_us1 : (-2147483648 : Int) ≤ us1 ∧ us1 ≤ 2147483647 := ex_us1 ▸ hWx.1 61
        have b_wl3 : (-2147483648 : Int) ≤ wl3 ∧ wl3 ≤ 2147483647 := ex_wl3 ▸ hWx.1 67
        have hIN := iv_5
        refine jx_ld (pc_q := 38) (l_q := L) (st_q := [.int (i32 (kk))]) rfl (jl_iloadn gL_2) ?_
        refine jx_ld (pc_q := 39) (l_q := L) (st_q := [.ref 66, .int (i32 (kk))]) rfl (jl_aloadn gL_0) ?_
        refine jr_get (pc_q := 42) (i := 61) (v := .int (i32 (us1))) rfl rfl (by decide) (rFv_eq (by decide) (show Gx 61 = us1 from (ex_us1))) rfl ?_
        refine jx_icmp_ge (pc_q := 45) (tg := 80) rfl rfl rfl (Int.le_trans (by decide : (-2147483648 : Int) ≤ -2147483648) rx_kk.1) (Int.le_trans rx_kk.2 (by decide : (2147483647 : Int) ≤ 2147483647)) (Int.le_trans (by decide : (-2147483648 : Int) ≤ -2147483648) b_us1.1) (Int.le_trans b_us1.2 (by decide : (2147483647 : Int) ≤ 2147483647)) (fun h20 => ?_) (fun h20 => ?_)
        · have _q := h20
          refine jx_ld (pc_q := 81) (l_q := L) (st_q := [.ref 66]) rfl (jl_aloadn gL_0) ?_
          refine jx_ar (pc_q := 82) (st_q := [.int (i32 (-1)), .ref 66]) rfl rfl rfl rfl ?_
          refine jr_put (pc_q := 85) (i := 68) (z := -1) rfl rfl (by decide) rfl rfl rfl rfl rfl rfl ?_
          have hW21 : Wk (uG Gx 68 (-1)) Ax := Wk_g hWx (show (-2147483648 : Int) ≤ -1 by omega) (show -1 ≤ (2147483647 : Int) by omega)
          have hF22 := Fr_g (z := -1) (i := 68) hFx (by decide)
          have hRq := p_1 pq (by omega) (by omega); have htb := hRq.1.2.1; have hti := wP_in hRq.1.1
          refine jx_ld (pc_q := 86) (l_q := L) (st_q := [.ref 66]) rfl (jl_aloadn gL_0) ?_
          refine jx_ld (pc_q := 87) (l_q := L) (st_q := [.ref 66, .ref 66]) rfl (jl_aloadn gL_0) ?_
          refine jr_get (pc_q := 90) (i := 49) (v := .ref 98) rfl rfl (by decide) rfl rfl ?_
          refine jx_ld (pc_q := 91) (l_q := L) (st_q := [.int (i32 (pq)), .ref 98, .ref 66]) rfl (jl_iloadn gL_1) ?_
          have b23 : (-2147483648 : Int) ≤ T0 31 (pq).toNat ∧ T0 31 (pq).toNat ≤ 2147483647 := hWT.2 31 _
          refine jr_ldv (pc_q := 92) (i := 31) (m := 25) (z := pq) (y := T0 31 (pq).toNat) rfl (by decide) rfl (by decide) (by omega) (by omega) rfl (show Ax 31 (pq).toNat = T0 31 (pq).toNat from (congrFun ((hFx.2 31 rfl).trans (p_0 31 rfl)) _)) ?_
          refine jx_vr (pc_q := 95) (as := [.int (i32 (T0 31 (pq).toNat))]) (st := []) rfl rfl rfl rfl ⟨rfl, rfl, Nat.le_of_ble_eq_true rfl⟩ rfl rfl (c_check_t (dd := d) (hd := by omega) (hW := hW21) (p := T0 31 (pq).toNat) (wl := wl3) (e_wl := show (uG Gx 68 (-1)) 67 = wl3 from (ex_wl3)) (wh := -1) (e_wh := show (uG Gx 68 (-1)) 68 = -1 from rfl)  (h_p := ⟨(Int.le_trans (by decide : (-2147483648 : Int) ≤ -2147483648) b23.1), (Int.le_trans b23.2 (by decide : (2147483647 : Int) ≤ 2147483647))⟩)  (p_0 := (TA_fr hF22 (by decide) p_0)) (p_1 := hRq.1) (p_2 := (MR_fr (show Ax 16 = A 16 from (hFx.2 16 rfl)) (show Ax 28 = A 28 from (hFx.2 28 rfl)) p_3)) (p_3 := by omega) (p_4 := by omega)) (fun o V_q hq => ?_)
          obtain ⟨G24, A25, wl2_26, rfl, rfl, hW27, hF28, e29, p30, p31, p32, -⟩ := hq
          have hF34 := Fr_tr hF22 hF28 (Fr_sub (by decide)) (Fr_sub (by decide))
          have bwl2_26 : (-2147483648 : Int) ≤ wl2_26 ∧ wl2_26 ≤ 2147483647 := e29 ▸ hW27.1 67
          refine .inl ⟨rfl, ?_⟩
          refine jx_inc (pc_q := 98) (l_q := jSto1 L 1 (.int (i32 ((pq + (1)))))) (x := pq) rfl gL_1 (by decide) rfl rfl ?_
          obtain ⟨L35, eL35⟩ : ∃ q, q = jSto1 L 1 (.int (i32 ((pq + (1))))) := ⟨_, rfl⟩
          rw [← eL35]
          have gL35_0 : jGet L35 0 = some (.ref 66) := eL35 ▸ jg_ne (by decide) gL_0 rfl
          have gL35_2 : jGet L35 2 = some (.int (i32 (kk))) := eL35 ▸ jg_ne (by decide) gL_2 rfl
          have gL35_1 : jGet L35 1 = some (.int (i32 ((pq + (1))))) := eL35 ▸ jg_eq
          refine jx_go (tg := 7) rfl rfl ?_
          exact ih7 _ (by omega) L35 G24 A25 ((pq + (1))) (wl2_26) rfl gL35_0 gL35_1 hW27 hF34 ((e29)) (by omega) (by omega) (by omega) (by omega) ((CUq_nx p_1 (by omega) (by omega) rfl (fun n => (hWx.2 11 n).1) hcq (by omega) hIN (hF28.2 11 rfl) (by omega) p32))
        · have _q := h20
          have hse := IN_i hIN (by omega) (by omega); have hor := or_b (a := Ax 11 (Ax 39 (kk).toNat).toNat) (b := Ax 42 (kk).toNat) (hWx.2 11 _).1 (hWx.2 11 _).2 hse.1.1 hse.1.2
          refine jx_ld (pc_q := 46) (l_q := L) (st_q := [.ref 66]) rfl (jl_aloadn gL_0) ?_
          refine jr_get (pc_q := 49) (i := 25) (v := .ref 78) rfl rfl (by decide) rfl rfl ?_
          refine jx_ld (pc_q := 50) (l_q := L) (st_q := [.ref 66, .ref 78]) rfl (jl_aloadn gL_0) ?_
          refine jr_get (pc_q := 53) (i := 63) (v := .ref 106) rfl rfl (by decide) rfl rfl ?_
          refine jx_ld (pc_q := 54) (l_q := L) (st_q := [.int (i32 (kk)), .ref 106, .ref 78]) rfl (jl_iloadn gL_2) ?_
          have b36 : (-2147483648 : Int) ≤ Ax 39 (kk).toNat ∧ Ax 39 (kk).toNat ≤ 2147483647 := hWx.2 39 _
          refine jr_ldv (pc_q := 55) (i := 39) (m := 60000) (z := kk) (y := Ax 39 (kk).toNat) rfl (by decide) rfl (by decide) (by omega) (by omega) rfl (show Ax 39 (kk).toNat = Ax 39 (kk).toNat from rfl) ?_
          refine jx_ld (pc_q := 56) (l_q := L) (st_q := [.ref 66, .int (i32 (Ax 39 (kk).toNat)), .ref 78]) rfl (jl_aloadn gL_0) ?_
          refine jr_get (pc_q := 59) (i := 25) (v := .ref 78) rfl rfl (by decide) rfl rfl ?_
          refine jx_ld (pc_q := 60) (l_q := L) (st_q := [.ref 66, .ref 78, .int (i32 (Ax 39 (kk).toNat)), .ref 78]) rfl (jl_aloadn gL_0) ?_
          refine jr_get (pc_q := 63) (i := 63) (v := .ref 106) rfl rfl (by decide) rfl rfl ?_
          refine jx_ld (pc_q := 64) (l_q := L) (st_q := [.int (i32 (kk)), .ref 106, .ref 78, .int (i32 (Ax 39 (kk).toNat)), .ref 78]) rfl (jl_iloadn gL_2) ?_
          refine jr_ldv (pc_q := 65) (i := 39) (m := 60000) (z := kk) (y := Ax 39 (kk).toNat) rfl (by decide) rfl (by decide) (by omega) (by omega) rfl (show Ax 39 (kk).toNat = Ax 39 (kk).toNat from rfl) ?_
          have b37 : (0 : Int) ≤ Ax 11 (Ax 39 (kk).toNat).toNat ∧ Ax 11 (Ax 39 (kk).toNat).toNat ≤ 15 := hWx.2 11 _
          refine jr_ldv (pc_q := 66) (i := 11) (m := 260) (z := Ax 39 (kk).toNat) (y := Ax 11 (Ax 39 (kk).toNat).toNat) rfl (by decide) rfl (by decide) (by omega) (by omega) rfl (show Ax 11 (Ax 39 (kk).toNat).toNat = Ax 11 (Ax 39 (kk).toNat).toNat from rfl) ?_
          refine jx_ld (pc_q := 67) (l_q := L) (st_q := [.ref 66, .int (i32 (Ax 11 (Ax 39 (kk).toNat).toNat)), .int (i32 (Ax 39 (kk).toNat)), .ref 78]) rfl (jl_aloadn gL_0) ?_
          refine jr_get (pc_q := 70) (i := 66) (v := .ref 109) rfl rfl (by decide) rfl rfl ?_
          refine jx_ld (pc_q := 71) (l_q := L) (st_q := [.int (i32 (kk)), .ref 109, .int (i32 (Ax 11 (Ax 39 (kk).toNat).toNat)), .int (i32 (Ax 39 (kk).toNat)), .ref 78]) rfl (jl_iloadn gL_2) ?_
          have b38 : (-2147483648 : Int) ≤ Ax 42 (kk).toNat ∧ Ax 42 (kk).toNat ≤ 2147483647 := hWx.2 42 _
          refine jr_ldv (pc_q := 72) (i := 42) (m := 60000) (z := kk) (y := Ax 42 (kk).toNat) rfl (by decide) rfl (by decide) (by omega) (by omega) rfl (show Ax 42 (kk).toNat = Ax 42 (kk).toNat from rfl) ?_
          refine jx_or (pc_q := 73) rfl rfl ?_
          obtain ⟨b39, eb39⟩ : ∃ z, z = (i32 (Ax 11 (Ax 39 (kk).toNat).toNat) ||| i32 (Ax 42 (kk).toNat)).toInt := ⟨_, rfl⟩
          rw [← eb39]
          have rb39 : (-2147483648 : Int) ≤ b39 ∧ b39 ≤ 2147483647 := eb39 ▸ i32_rg _
          refine jr_st (pc_q := 74) (i := 11) (m := 260) (z := Ax 39 (kk).toNat) (y := b39) rfl (by decide) rfl (by decide) (by omega) (by omega) rfl ?_
          have hW41 : Wk Gx (uA Ax 11 (Ax 39 (kk).toNat).toNat (b39)) := Wk_a hWx (show (0 : Int) ≤ b39 by omega) (show b39 ≤ (15 : Int) by omega)
          have hF42 := Fr_a (z := b39) (k := 11) (n := (Ax 39 (kk).toNat).toNat) hFx (by decide)
          obtain ⟨A40, eA40⟩ : ∃ q, q = uA Ax 11 (Ax 39 (kk).toNat).toNat (b39) := ⟨_, rfl⟩
          rw [← eA40]
          rw [← eA40] at hW41 hF42
          have q43 : A40 11 (Ax 39 (kk).toNat).toNat = b39 := by rw [eA40]; exact uA_eq
          refine jx_inc (pc_q := 77) (l_q := jSto1 L 2 (.int (i32 ((kk + (1)))))) (x := kk) rfl gL_2 (by decide) rfl rfl ?_
          obtain ⟨L44, eL44⟩ : ∃ q, q = jSto1 L 2 (.int (i32 ((kk + (1))))) := ⟨_, rfl⟩
          rw [← eL44]
          have gL44_0 : jGet L44 0 = some (.ref 66) := eL44 ▸ jg_ne (by decide) gL_0 rfl
          have gL44_1 : jGet L44 1 = some (.int (i32 (pq))) := eL44 ▸ jg_ne (by decide) gL_1 rfl
          have gL44_2 : jGet L44 2 = some (.int (i32 ((kk + (1))))) := eL44 ▸ jg_eq
          refine jx_go (tg := 37) rfl rfl ?_
          exact ih37 _ (by omega) L44 Gx A40 ((kk + (1))) (us1) (wl3) (Ab) (Au) rfl gL44_0 gL44_1 gL44_2 hW41 hF42 ((ex_us1)) ((ex_wl3)) (by omega) (by omega) (by omega) (by omega) (by omega) (by omega) ((IN_nx hIN (fun n => ⟨(hWx.2 11 n).1, (hWx.2 11 n).2⟩) (by omega) (by omega) rfl rfl rfl eb39 eA40))
    refine jx_ld (pc_q := 8) (l_q := L) (st_q := [.int (i32 (pq))]) rfl (jl_iloadn gL_1) ?_
    refine jx_ld (pc_q := 9) (l_q := L) (st_q := [.ref 66, .int (i32 (pq))]) rfl (jl_aloadn gL_0) ?_
    refine jr_get (pc_q := 12) (i := 46) (v := .int (i32 (pc))) rfl rfl (by decide) (rFv_eq (by decide) (show Gx 46 = pc from ((hFx.1 46 rfl).trans (e_pc)))) rfl ?_
    refine jx_icmp_ge (pc_q := 15) (tg := 101) rfl rfl rfl (Int.le_trans (by decide : (-2147483648 : Int) ≤ -2147483648) rx_pq.1) (Int.le_trans rx_pq.2 (by decide : (2147483647 : Int) ≤ 2147483647)) (Int.le_trans (by decide : (-2147483648 : Int) ≤ 0) b_pc.1) (Int.le_trans b_pc.2 (by decide : (24 : Int) ≤ 2147483647)) (fun h45 => ?_) (fun h45 => ?_)
    · have _q := h45
      refine jx_ar (pc_q := 102) (st_q := [.int (i32 (0))]) rfl rfl rfl rfl ?_
      refine jx_ld (pc_q := 103) (l_q := jSto1 L 1 (.int (i32 (0)))) (st_q := []) rfl rfl ?_
      obtain ⟨L46, eL46⟩ : ∃ q, q = jSto1 L 1 (.int (i32 (0))) := ⟨_, rfl⟩
      rw [← eL46]
      have gL46_0 : jGet L46 0 = some (.ref 66) := eL46 ▸ jg_ne (by decide) gL_0 rfl
      have gL46_1 : jGet L46 1 = some (.int (i32 (0))) := eL46 ▸ jg_eq
      exact c_checkUses_at_103 (X := X) (d := d) (T0 := T0) (nd := nd) (VF := VF) (VG := VG) (LO := LO) (HI := HI) (S0 := S0) (S1 := S1) (LP := LP) (HP := HP) (S2 := S2) (S3 := S3) (FF := FF) (FG := FG) (c0 := c0) (c1 := c1) (G := G) (A := A) (T := T) (pc := pc) (hd := hd) (hW := hW) (e_pc := e_pc) (p_0 := p_0) (p_1 := p_1) (p_2 := p_2) (p_3 := p_3) (p_4 := p_4) _ L46 Gx Ax (0) (wl1) rfl gL46_0 gL46_1 hWx hFx ((ex_wl1)) (by omega) (by omega) (by omega) (by omega) ((fun w i a b => iv_3 (by omega) i a (by omega))) ((CUp_0 (by omega)))
    · have _q := h45
      refine jx_ld (pc_q := 16) (l_q := L) (st_q := [.ref 66]) rfl (jl_aloadn gL_0) ?_
      refine jx_ar (pc_q := 17) (st_q := [.int (i32 (0)), .ref 66]) rfl rfl rfl rfl ?_
      refine jr_put (pc_q := 20) (i := 61) (z := 0) rfl rfl (by decide) rfl rfl rfl rfl rfl rfl ?_
      have hW47 : Wk (uG Gx 61 (0)) Ax := Wk_g hWx (show (-2147483648 : Int) ≤ 0 by omega) (show 0 ≤ (2147483647 : Int) by omega)
      have hF48 := Fr_g (z := 0) (i := 61) hFx (by decide)
      refine jx_ld (pc_q := 21) (l_q := L) (st_q := [.ref 66]) rfl (jl_aloadn gL_0) ?_
      refine jx_ar (pc_q := 22) (st_q := [.int (i32 (0)), .ref 66]) rfl rfl rfl rfl ?_
      refine jr_put (pc_q := 25) (i := 62) (z := 0) rfl rfl (by decide) rfl rfl rfl rfl rfl rfl ?_
      have hW49 : Wk (uG (uG Gx 61 (0)) 62 (0)) Ax := Wk_g hW47 (show (-2147483648 : Int) ≤ 0 by omega) (show 0 ≤ (2147483647 : Int) by omega)
      have hF50 := Fr_g (z := 0) (i := 62) hF48 (by decide)
      have hRq := p_1 pq (by omega) (by omega); have htb := hRq.1.2.1; have hti := wP_in hRq.1.1
      refine jx_ld (pc_q := 26) (l_q := L) (st_q := [.ref 66]) rfl (jl_aloadn gL_0) ?_
      refine jx_ld (pc_q := 27) (l_q := L) (st_q := [.ref 66, .ref 66]) rfl (jl_aloadn gL_0) ?_
      refine jr_get (pc_q := 30) (i := 49) (v := .ref 98) rfl rfl (by decide) rfl rfl ?_
      refine jx_ld (pc_q := 31) (l_q := L) (st_q := [.int (i32 (pq)), .ref 98, .ref 66]) rfl (jl_iloadn gL_1) ?_
      have b51 : (-2147483648 : Int) ≤ T0 31 (pq).toNat ∧ T0 31 (pq).toNat ≤ 2147483647 := hWT.2 31 _
      refine jr_ldv (pc_q := 32) (i := 31) (m := 25) (z := pq) (y := T0 31 (pq).toNat) rfl (by decide) rfl (by decide) (by omega) (by omega) rfl (show Ax 31 (pq).toNat = T0 31 (pq).toNat from (congrFun ((hFx.2 31 rfl).trans (p_0 31 rfl)) _)) ?_
      refine jx_vr (pc_q := 35) (as := [.int (i32 (T0 31 (pq).toNat))]) (st := []) rfl rfl rfl rfl ⟨rfl, rfl, Nat.le_of_ble_eq_true rfl⟩ rfl rfl (c_useAll_t (dd := d) (hd := by omega) (hW := hW49) (p := T0 31 (pq).toNat) (uf := 0) (e_uf := show (uG (uG Gx 61 (0)) 62 (0)) 62 = 0 from rfl) (us := 0) (e_us := show (uG (uG Gx 61 (0)) 62 (0)) 61 = 0 from rfl)  (h_p := ⟨(Int.le_trans (by decide : (-2147483648 : Int) ≤ -2147483648) b51.1), (Int.le_trans b51.2 (by decide : (2147483647 : Int) ≤ 2147483647))⟩)  (p_0 := (TA_fr hF50 (by decide) p_0)) (p_1 := hRq.1) (p_2 := by omega) (p_3 := by omega) (p_4 := by omega)) (fun o V_q hq => ?_)
      obtain ⟨G52, A53, us2_54, rfl, rfl, hW55, hF56, e57, p58, p59, p60, -⟩ := hq
      have hF62 := Fr_tr hF50 hF56 (Fr_sub (by decide)) (Fr_sub (by decide))
      have bus2_54 : (-2147483648 : Int) ≤ us2_54 ∧ us2_54 ≤ 2147483647 := e57 ▸ hW55.1 61
      refine .inl ⟨rfl, ?_⟩
      have heu : A53 11 = Aq 11 := (by rw [eAq]; exact (hF56.2 11 rfl))
      refine jx_ar (pc_q := 36) (st_q := [.int (i32 (0))]) rfl rfl rfl rfl ?_
      refine jx_ld (pc_q := 37) (l_q := jSto1 L 2 (.int (i32 (0)))) (st_q := []) rfl rfl ?_
      obtain ⟨L63, eL63⟩ : ∃ q, q = jSto1 L 2 (.int (i32 (0))) := ⟨_, rfl⟩
      rw [← eL63]
      have gL63_0 : jGet L63 0 = some (.ref 66) := eL63 ▸ jg_ne (by decide) gL_0 rfl
      have gL63_1 : jGet L63 1 = some (.int (i32 (pq))) := eL63 ▸ jg_ne (by decide) gL_1 rfl
      have gL63_2 : jGet L63 2 = some (.int (i32 (0))) := eL63 ▸ jg_eq
      exact at_37 _ L63 G52 A53 (0) (us2_54) (wl1) (Ax) (A53) rfl gL63_0 gL63_1 gL63_2 hW55 hF62 ((e57)) (((hF56.1 67 rfl).trans (ex_wl1))) (by omega) (by omega) (by omega) (by omega) (by omega) (by omega) (⟨(by rw [eAq]), heu, p60, L2_0 (by omega)⟩)
set_option maxRecDepth 20000 in
set_option maxHeartbeats 4000000 in
theorem c_checkUses {X : jX} {dd : Nat} {T0 : Nat → Nat → Int} {nd : Int} {VF VG : Int → Nat → Prop} {LO HI S0 S1 LP HP S2 S3 : Int → Int} {FF FG : Int → Int → Int → Int → Prop} {c0 c1 : jC} {G : Nat → Int} {A : Nat → Nat → Int} {T : jH} {pc : Int} (hd : 140 ≤ dd) (hW : Wk G A) (e_pc : G 46 = pc) (p_0 : TA T0 A) (p_1 : CUs T0 nd pc VF LO HI S0 S1 FF) (p_2 : CUt T0 nd pc VG LP HP S2 S3 FG) (p_3 : MRx T0 A nd) (p_4 : nd ≤ 6999) : wk X dd 341 [.ref 66] (rV c0 c1 G A T) (fun o V_q => ∃ (G_q : Nat → Int) (A_q : Nat → Nat → Int) (r : Int) (wl2 : Int), V_q = rV c0 c1 G_q A_q T ∧ o = .inl (some (.int (i32 r))) ∧ Wk G_q A_q ∧ Fr [61, 62, 67, 68] [11, 13, 39, 40, 41, 42, 43] G A G_q A_q ∧ ((0 : Int) ≤ r ∧ r ≤ 1) ∧ G_q 67 = wl2 ∧ (-1 ≤ wl2 ∧ wl2 ≤ 3000) ∧ ((r = 1 ∧ (CUq T0 A_q (-1) (pc)) ∧ (CUp T0 A_q (-1) (6))) ∨ (r = 0))) := by
  obtain ⟨d, rfl⟩ : ∃ d, dd = d + 1 := ⟨dd - 1, by omega⟩
  refine wk_of (e := jm341) rfl (Nat.le_of_ble_eq_true rfl) ?_
  show wj X d jm341 (0, [(0, .ref 66)], [], rV c0 c1 G A T) _
  have hF0 : Fr [61, 62, 67, 68] [11, 13, 39, 40, 41, 42, 43] G A G A := Fr_rf
  have b_pc : (0 : Int) ≤ pc ∧ pc ≤ 24 := e_pc ▸ hW.1 46
  have hWT := TA_w hW p_0
  refine jx_ld (pc_q := 1) (l_q := [(0, .ref 66)]) (st_q := [.ref 66]) rfl (jl_aloadn rfl) ?_
  refine jx_ar (pc_q := 2) (st_q := [.int (i32 (-1)), .ref 66]) rfl rfl rfl rfl ?_
  refine jr_put (pc_q := 5) (i := 67) (z := -1) rfl rfl (by decide) rfl rfl rfl rfl rfl rfl ?_
  have hW64 : Wk (uG G 67 (-1)) A := Wk_g hW (show (-2147483648 : Int) ≤ -1 by omega) (show -1 ≤ (2147483647 : Int) by omega)
  have hF65 := Fr_g (z := -1) (i := 67) hF0 (by decide)
  refine jx_ar (pc_q := 6) (st_q := [.int (i32 (0))]) rfl rfl rfl rfl ?_
  refine jx_ld (pc_q := 7) (l_q := jSto1 [(0, .ref 66)] 1 (.int (i32 (0)))) (st_q := []) rfl rfl ?_
  obtain ⟨L66, eL66⟩ : ∃ q, q = jSto1 [(0, .ref 66)] 1 (.int (i32 (0))) := ⟨_, rfl⟩
  rw [← eL66]
  have gL66_0 : jGet L66 0 = some (.ref 66) := eL66 ▸ jg_ne (by decide) (rfl : jGet [(0, .ref 66)] 0 = some (.ref 66)) rfl
  have gL66_1 : jGet L66 1 = some (.int (i32 (0))) := eL66 ▸ jg_eq
  exact c_checkUses_at_7 (X := X) (d := d) (T0 := T0) (nd := nd) (VF := VF) (VG := VG) (LO := LO) (HI := HI) (S0 := S0) (S1 := S1) (LP := LP) (HP := HP) (S2 := S2) (S3 := S3) (FF := FF) (FG := FG) (c0 := c0) (c1 := c1) (G := G) (A := A) (T := T) (pc := pc) (hd := hd) (hW := hW) (e_pc := e_pc) (p_0 := p_0) (p_1 := p_1) (p_2 := p_2) (p_3 := p_3) (p_4 := p_4) _ L66 (uG G 67 (-1)) A (0) (-1) rfl gL66_0 gL66_1 hW64 hF65 (rfl) (by omega) (by omega) (by omega) (by omega) ((CUq_0 (by omega)))
