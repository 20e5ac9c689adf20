theorem PK_k {A A1 : Nat → Nat → Int} {p k k_q : Int} (e : k = k_q) (h : PK A A1 p k) : PK A A1 p k_q := e ▸ h
theorem wB_le {A : Nat → Nat → Int} {V : Nat → Prop} {pb lo hi s0 s1 : Int} (h : wB A V pb lo hi s0 s1) : lo ≤ hi ∧ s0 ≤ s1 := by
  obtain ⟨l, _, _, _, h⟩ := h
  exact wCs_le h
theorem PS_to {A : Nat → Nat → Int} {p q : Int} (e : p = q) (h : PS A p) : PS A q := e ▸ h
theorem MQa_p {A A1 : Nat → Nat → Int} {p p_q ft : Int} (e : p = p_q) (h : MQa A A1 p ft) : MQa A A1 p_q ft := e ▸ h
theorem MBs_6 {A A1 : Nat → Nat → Int} {p ft : Int} (e : 6 ≤ p) (h : MBs A A1 p ft) : MBs A A1 6 ft := fun r h1 h2 h3 => h r h1 (by omega) h3

set_option maxRecDepth 20000 in
set_option maxHeartbeats 4000000 in
theorem c_measureAll_at_155 {X : jX} {d : Nat} {c0 c1 : jC} {G : Nat → Int} {A : Nat → Nat → Int} {T : jH} {pc nd sy lk : Int} (hd : 2 * 18 + 31 ≤ d + 1) (hW : Wk G A) (e_pc : G 46 = pc) (e_nd : G 31 = nd) (e_sy : G 19 = sy) (e_lk : G 52 = lk) (p_0 : TT A (pc) (nd) (sy) (lk)) : ∀ (m : Nat) (L : jL) (Gx : Nat → Int) (Ax : Nat → Nat → Int) (ft p : Int), (6 - p).toNat = m → jGet L 0 = some (.ref 66) → jGet L 1 = some (.int (i32 ft)) → jGet L 2 = some (.int (i32 p)) → Wk Gx Ax → Fr [59, 60] [9, 10, 25, 26, 27, 32, 33, 37, 38] G A Gx Ax → Gx 46 = pc → ((-2147483648 : Int) ≤ ft ∧ ft ≤ 2147483647) → ((-2147483648 : Int) ≤ p ∧ p ≤ 2147483647) → (0 ≤ ft ∧ ft ≤ 1) → (0 ≤ p ∧ p ≤ 6) → (MQa A Ax (pc) (ft)) → (MBs A Ax (p) (ft)) → wj X d jm322 (155, L, [], rV c0 c1 Gx Ax T) (fun o V_q => ∃ (G_q : Nat → Int) (A_q : Nat → Nat → Int) (r : Int) (pc2 : Int), V_q = rV c0 c1 G_q A_q T ∧ o = .inl (some (.int (i32 r))) ∧ Wk G_q A_q ∧ Fr [59, 60] [9, 10, 25, 26, 27, 32, 33, 37, 38] G A G_q A_q ∧ ((0 : Int) ≤ r ∧ r ≤ 1) ∧ G_q 46 = pc2 ∧ ((r = 1 ∧ (LL A A_q (pc))) ∨ (r = 0))) := by
  have hF0 : Fr [59, 60] [9, 10, 25, 26, 27, 32, 33, 37, 38] G A G A := Fr_rf
  have b_pc : (0 : Int) ≤ pc ∧ pc ≤ 24 := e_pc ▸ hW.1 46
  have b_nd : (0 : Int) ≤ nd ∧ nd ≤ 6999 := e_nd ▸ hW.1 31
  have b_sy : (0 : Int) ≤ sy ∧ sy ≤ 202 := e_sy ▸ hW.1 19
  have b_lk : (0 : Int) ≤ lk ∧ lk ≤ 12 := e_lk ▸ hW.1 52
  have hp0 := p_0
  obtain ⟨Vs, lo, s0, t0, ht0, hlk, h2s, hvb, hVL, hwQ, hwK, hwB⟩ := hp0
  obtain ⟨aF, bF, uF, vF, hBA⟩ := wB_ba hwB
  have hle := wQ_le hwQ
  have hwl := wB_le hwB
  intro m
  induction m using Nat.strongRecOn with
  | ind m ih155 =>
    intro L Gx Ax ft p hm gL_0 gL_1 gL_2 hWx hFx fx_46 rx_ft rx_p iv_0 iv_1 iv_2 iv_3
    refine jx_ld (pc_q := 156) (l_q := L) (st_q := [.int (i32 (p))]) rfl (jl_iloadn gL_2) ?_
    refine jx_ar (pc_q := 158) (st_q := [.int (i32 (6)), .int (i32 (p))]) rfl rfl rfl rfl ?_
    refine jx_icmp_ge (pc_q := 161) (tg := 244) rfl rfl rfl (Int.le_trans (by decide : (-2147483648 : Int) ≤ -2147483648) rx_p.1) (Int.le_trans rx_p.2 (by decide : (2147483647 : Int) ≤ 2147483647)) (by decide) (by decide) (fun h1 => ?_) (fun h1 => ?_)
    · have _q := h1
      rcases (by omega : ft = 0 ∨ ft = 1) with hft | hft
      · have _q : True := trivial
        refine jx_ld (pc_q := 245) (l_q := L) (st_q := [.int (i32 (ft))]) rfl (jl_iloadn gL_1) ?_
        refine jx_rt (v := some (.int (i32 (ft)))) rfl rfl rfl rfl rfl (by first | rfl | exact jRet_b (by omega)) ?_
        exact ⟨_, _, _, pc, rfl, rfl, hWx, hFx, by omega, (fx_46), by first | exact Or.inl (⟨by omega, ⟨MQa_ft (fun _ => by omega) iv_2, MBs_6 (by omega) (MBs_ft (fun _ => by omega) iv_3)⟩⟩) | exact Or.inr ((by omega))⟩
      · have _q : True := trivial
        refine jx_ld (pc_q := 245) (l_q := L) (st_q := [.int (i32 (ft))]) rfl (jl_iloadn gL_1) ?_
        refine jx_rt (v := some (.int (i32 (ft)))) rfl rfl rfl rfl rfl (by first | rfl | exact jRet_b (by omega)) ?_
        exact ⟨_, _, _, pc, rfl, rfl, hWx, hFx, by omega, (fx_46), by first | exact Or.inl (⟨by omega, ⟨MQa_ft (fun _ => by omega) iv_2, MBs_6 (by omega) (MBs_ft (fun _ => by omega) iv_3)⟩⟩) | exact Or.inr ((by omega))⟩
    · have _q := h1
      refine jx_ld (pc_q := 162) (l_q := L) (st_q := [.ref 66]) rfl (jl_aloadn gL_0) ?_
      refine jr_get (pc_q := 165) (i := 55) (v := .ref 103) rfl rfl (by decide) rfl rfl ?_
      refine jx_ld (pc_q := 166) (l_q := L) (st_q := [.int (i32 (p)), .ref 103]) rfl (jl_iloadn gL_2) ?_
      have b2 : (-2147483648 : Int) ≤ A 36 (p).toNat ∧ A 36 (p).toNat ≤ 2147483647 := hW.2 36 _
      refine jr_ldv (pc_q := 167) (i := 36) (m := 6) (z := p) (y := A 36 (p).toNat) rfl (by decide) rfl (by decide) (by omega) (by omega) rfl (show Ax 36 (p).toNat = A 36 (p).toNat from (congrFun (hFx.2 36 rfl) _)) ?_
      refine jx_if_le (pc_q := 170) (tg := 238) rfl rfl rfl (Int.le_trans (by decide : (-2147483648 : Int) ≤ -2147483648) b2.1) (Int.le_trans b2.2 (by decide : (2147483647 : Int) ≤ 2147483647)) (fun h3 => ?_) (fun h3 => ?_)
      · have _q := h3
        refine jx_inc (pc_q := 241) (l_q := jSto1 L 2 (.int (i32 ((p + (1)))))) (x := p) rfl gL_2 (by decide) rfl rfl ?_
        obtain ⟨L4, eL4⟩ : ∃ q, q = jSto1 L 2 (.int (i32 ((p + (1))))) := ⟨_, rfl⟩
        rw [← eL4]
        have gL4_0 : jGet L4 0 = some (.ref 66) := eL4 ▸ jg_ne (by decide) gL_0 rfl
        have gL4_1 : jGet L4 1 = some (.int (i32 (ft))) := eL4 ▸ jg_ne (by decide) gL_1 rfl
        have gL4_2 : jGet L4 2 = some (.int (i32 ((p + (1))))) := eL4 ▸ jg_eq
        refine jx_go (tg := 155) rfl rfl ?_
        exact ih155 _ (by omega) L4 Gx Ax (ft) ((p + (1))) rfl gL4_0 gL4_1 gL4_2 hWx hFx ((fx_46)) (by omega) (by omega) (by omega) (by omega) (iv_2) ((MBs_sk iv_3 (by omega)))
      · have _q := h3
        obtain ⟨hb1, hb2, hb3, hb4, hb5, hb6, hb7⟩ := hBA.1 p (by omega) (by omega) (by omega); have sgF0 : Fr [59, 60] [9, 10, 25, 26, 27, 32, 33, 37, 38] Gx Ax Gx Ax := Fr_rf; have sgO0 : Fo [25, 26, 27] (aF p) (bF p) Ax Ax := Fo_rf; have sgN0 : Fo [9, 10] (uF p) (vF p) Ax Ax := Fo_rf; have sgQ0 : Fx [32, 33] (pc) Ax Ax := Fx_rf; have sgS0 : Fx [37, 38] (p) Ax Ax := Fx_rf
        refine jx_ld (pc_q := 171) (l_q := L) (st_q := [.ref 66]) rfl (jl_aloadn gL_0) ?_
        refine jx_ar (pc_q := 172) (st_q := [.int (i32 (0)), .ref 66]) rfl rfl rfl rfl ?_
        refine jr_put (pc_q := 175) (i := 60) (z := 0) rfl rfl (by decide) rfl rfl rfl rfl rfl rfl ?_
        have hW5 : Wk (uG Gx 60 (0)) Ax := Wk_g hWx (show (-2147483648 : Int) ≤ 0 by omega) (show 0 ≤ (2147483647 : Int) by omega)
        have hF6 := Fr_g (z := 0) (i := 60) hFx (by decide)
        have sgF7 := Fr_g (z := 0) (i := 60) sgF0 (by decide)
        refine jx_ld (pc_q := 176) (l_q := L) (st_q := [.ref 66]) rfl (jl_aloadn gL_0) ?_
        refine jx_ar (pc_q := 177) (st_q := [.int (i32 (1)), .ref 66]) rfl rfl rfl rfl ?_
        refine jr_put (pc_q := 180) (i := 59) (z := 1) rfl rfl (by decide) rfl rfl rfl rfl rfl rfl ?_
        have hW8 : Wk (uG (uG Gx 60 (0)) 59 (1)) Ax := Wk_g hW5 (show (-2147483648 : Int) ≤ 1 by omega) (show 1 ≤ (2147483647 : Int) by omega)
        have hF9 := Fr_g (z := 1) (i := 59) hF6 (by decide)
        have sgF10 := Fr_g (z := 1) (i := 59) sgF7 (by decide)
        refine jx_ld (pc_q := 181) (l_q := L) (st_q := [.ref 66]) rfl (jl_aloadn gL_0) ?_
        refine jr_get (pc_q := 184) (i := 57) (v := .ref 105) rfl rfl (by decide) rfl rfl ?_
        refine jx_ld (pc_q := 185) (l_q := L) (st_q := [.int (i32 (p)), .ref 105]) rfl (jl_iloadn gL_2) ?_
        refine jx_ld (pc_q := 186) (l_q := L) (st_q := [.ref 66, .int (i32 (p)), .ref 105]) rfl (jl_aloadn gL_0) ?_
        refine jx_ld (pc_q := 187) (l_q := L) (st_q := [.ref 66, .ref 66, .int (i32 (p)), .ref 105]) rfl (jl_aloadn gL_0) ?_
        refine jr_get (pc_q := 190) (i := 55) (v := .ref 103) rfl rfl (by decide) rfl rfl ?_
        refine jx_ld (pc_q := 191) (l_q := L) (st_q := [.int (i32 (p)), .ref 103, .ref 66, .int (i32 (p)), .ref 105]) rfl (jl_iloadn gL_2) ?_
        refine jr_ldv (pc_q := 192) (i := 36) (m := 6) (z := p) (y := A 36 (p).toNat) rfl (by decide) rfl (by decide) (by omega) (by omega) rfl (show Ax 36 (p).toNat = A 36 (p).toNat from (congrFun (hFx.2 36 rfl) _)) ?_
        refine jx_ar (pc_q := 193) (st_q := [.int (i32 (1)), .int (i32 (A 36 (p).toNat)), .ref 66, .int (i32 (p)), .ref 105]) rfl rfl rfl rfl ?_
        refine jx_vr (pc_q := 196) (as := [.int (i32 (A 36 (p).toNat)), .int (i32 (1))]) (st := [.int (i32 (p)), .ref 105]) rfl rfl rfl rfl ⟨rfl, rfl, Nat.le_of_ble_eq_true rfl⟩ rfl rfl (MM_all X 18 (dd := d) (hd := by omega) (hW := hW8) (n := A 36 (p).toNat) (fr := 1) (lo := aF p) (hi := bF p) (s0 := uF p) (s1 := vF p) (mo := 1) (e_mo := show (uG (uG Gx 60 (0)) 59 (1)) 59 = 1 from rfl) (lv := 0) (e_lv := show (uG (uG Gx 60 (0)) 59 (1)) 60 = 0 from rfl)  (h_n := ⟨(Int.le_trans (by decide : (-2147483648 : Int) ≤ -2147483648) b2.1), (Int.le_trans b2.2 (by decide : (2147483647 : Int) ≤ 2147483647))⟩) (h_fr := ⟨(by decide), (by decide)⟩)  (p_0 := by omega) (p_1 := by omega) (p_2 := by omega) (p_3 := by omega) (p_4 := by omega) (p_5 := by omega) (p_6 := by omega) (p_7 := by omega) (p_8 := (PS_to (by omega) (MQa_ps (fun q hq => by obtain ⟨_, _, _, _, _, _, _, _, _, _, _, g, _⟩ := wQ_at (q := q) hwQ (by omega); exact g) iv_2))) (p_9 := by omega) (p_10 := by omega) (p_11 := by omega) (p_12 := (wP_fr2 hF9 (by decide) (by omega) (by omega) hb1)) (p_13 := by omega)) (fun o V_q hq => ?_)
        obtain ⟨G11, A12, r13, mo2_14, lv2_15, rfl, rfl, hW16, hF17, hQ18, hQ19, b20, e21, e22, p23, p24, p25, p26, p27, p28, -⟩ := hq
        have hF30 := Fr_tr hF9 hF17 (Fr_sub (by decide)) (Fr_sub (by decide))
        have sgO31 := Fo_tr sgO0 hQ18 (by omega) (by omega)
        have sgN32 := Fo_tr sgN0 hQ19 (by omega) (by omega)
        have sg33 := Fx_f sgQ0 hF17 (by decide)
        have sg34 := Fx_f sgS0 hF17 (by decide)
        have sgF35 := Fr_tr sgF10 hF17 (Fr_sub (by decide)) (Fr_sub (by decide))
        have bmo2_14 : (-2147483648 : Int) ≤ mo2_14 ∧ mo2_14 ≤ 2147483647 := e21 ▸ hW16.1 59
        have blv2_15 : (-2147483648 : Int) ≤ lv2_15 ∧ lv2_15 ≤ 2147483647 := e22 ▸ hW16.1 60
        refine .inr ⟨_, rfl, ?_⟩
        refine jr_st (pc_q := 197) (i := 38) (m := 6) (z := p) (y := r13) rfl (by decide) rfl (by decide) (by omega) (by omega) rfl ?_
        have hW37 : Wk G11 (uA A12 38 (p).toNat (r13)) := Wk_a hW16 (show (-2147483648 : Int) ≤ r13 by omega) (show r13 ≤ (2147483647 : Int) by omega)
        have hF38 := Fr_a (z := r13) (k := 38) (n := (p).toNat) hF30 (by decide)
        have sgF39 := Fr_a (z := r13) (k := 38) (n := (p).toNat) sgF35 (by decide)
        obtain ⟨A36, eA36⟩ : ∃ q, q = uA A12 38 (p).toNat (r13) := ⟨_, rfl⟩
        rw [← eA36]
        rw [← eA36] at hW37 hF38 sgF39
        have q40 : A36 38 (p).toNat = r13 := by rw [eA36]; exact uA_eq
        have sg41 : Fx [32, 33] (pc) _ A36 := eA36 ▸ Fx_n sg33 rfl
        have sg42 : Fx [37, 38] (p) _ A36 := eA36 ▸ Fx_a sg34 (z := p) (by omega) (by omega)
        have sgO43 : Fo [25, 26, 27] (aF p) (bF p) _ A36 := eA36 ▸ Fo_n sgO31 rfl
        have sgN44 : Fo [9, 10] (uF p) (vF p) _ A36 := eA36 ▸ Fo_n sgN32 rfl
        have sf45 : lP A36 (18) (A 36 (p).toNat) (1) (0) (mo2_14) (r13) := lP_qs eA36 (by decide) (by omega) (by omega) (by omega) (by omega) (wP_fr2 hF30 (by decide) (by omega) (by omega) hb1) p28
        refine jx_ld (pc_q := 198) (l_q := L) (st_q := [.ref 66]) rfl (jl_aloadn gL_0) ?_
        refine jr_get (pc_q := 201) (i := 56) (v := .ref 104) rfl rfl (by decide) rfl rfl ?_
        refine jx_ld (pc_q := 202) (l_q := L) (st_q := [.int (i32 (p)), .ref 104]) rfl (jl_iloadn gL_2) ?_
        refine jx_ld (pc_q := 203) (l_q := L) (st_q := [.ref 66, .int (i32 (p)), .ref 104]) rfl (jl_aloadn gL_0) ?_
        refine jr_get (pc_q := 206) (i := 59) (v := .int (i32 (mo2_14))) rfl rfl (by decide) (rFv_eq (by decide) (show G11 59 = mo2_14 from (e21))) rfl ?_
        refine jr_st (pc_q := 207) (i := 37) (m := 6) (z := p) (y := mo2_14) rfl (by decide) rfl (by decide) (by omega) (by omega) rfl ?_
        have hW47 : Wk G11 (uA A36 37 (p).toNat (mo2_14)) := Wk_a hW37 (show (-2147483648 : Int) ≤ mo2_14 by omega) (show mo2_14 ≤ (2147483647 : Int) by omega)
        have hF48 := Fr_a (z := mo2_14) (k := 37) (n := (p).toNat) hF38 (by decide)
        have sgF49 := Fr_a (z := mo2_14) (k := 37) (n := (p).toNat) sgF39 (by decide)
        obtain ⟨A46, eA46⟩ : ∃ q, q = uA A36 37 (p).toNat (mo2_14) := ⟨_, rfl⟩
        rw [← eA46]
        rw [← eA46] at hW47 hF48 sgF49
        have q50 : A46 37 (p).toNat = mo2_14 := by rw [eA46]; exact uA_eq
        have sg51 : Fx [32, 33] (pc) _ A46 := eA46 ▸ Fx_n sg41 rfl
        have sg52 : Fx [37, 38] (p) _ A46 := eA46 ▸ Fx_a sg42 (z := p) (by omega) (by omega)
        have sgO53 : Fo [25, 26, 27] (aF p) (bF p) _ A46 := eA46 ▸ Fo_n sgO43 rfl
        have sgN54 : Fo [9, 10] (uF p) (vF p) _ A46 := eA46 ▸ Fo_n sgN44 rfl
        have sf55 : lP A46 (18) (A 36 (p).toNat) (1) (0) (mo2_14) (r13) := lP_qs eA46 (by decide) (by omega) (by omega) (by omega) (by omega) (wP_fr2 hF38 (by decide) (by omega) (by omega) hb1) sf45
        refine jx_ld (pc_q := 208) (l_q := L) (st_q := [.int (i32 (ft))]) rfl (jl_iloadn gL_1) ?_
        refine jx_if_eq (pc_q := 211) (tg := 236) rfl rfl rfl (Int.le_trans (by decide : (-2147483648 : Int) ≤ -2147483648) rx_ft.1) (Int.le_trans rx_ft.2 (by decide : (2147483647 : Int) ≤ 2147483647)) (fun h56 => ?_) (fun h56 => ?_)
        · have _q := h56
          refine jx_ar (pc_q := 237) (st_q := [.int (i32 (0))]) rfl rfl rfl rfl ?_
          refine jx_ld (pc_q := 238) (l_q := jSto1 L 1 (.int (i32 (0)))) (st_q := []) rfl rfl ?_
          obtain ⟨L57, eL57⟩ : ∃ q, q = jSto1 L 1 (.int (i32 (0))) := ⟨_, rfl⟩
          rw [← eL57]
          have gL57_0 : jGet L57 0 = some (.ref 66) := eL57 ▸ jg_ne (by decide) gL_0 rfl
          have gL57_2 : jGet L57 2 = some (.int (i32 (p))) := eL57 ▸ jg_ne (by decide) gL_2 rfl
          have gL57_1 : jGet L57 1 = some (.int (i32 (0))) := eL57 ▸ jg_eq
          refine jx_inc (pc_q := 241) (l_q := jSto1 L57 2 (.int (i32 ((p + (1)))))) (x := p) rfl gL57_2 (by decide) rfl rfl ?_
          obtain ⟨L58, eL58⟩ : ∃ q, q = jSto1 L57 2 (.int (i32 ((p + (1))))) := ⟨_, rfl⟩
          rw [← eL58]
          have gL58_0 : jGet L58 0 = some (.ref 66) := eL58 ▸ jg_ne (by decide) gL57_0 rfl
          have gL58_1 : jGet L58 1 = some (.int (i32 (0))) := eL58 ▸ jg_ne (by decide) gL57_1 rfl
          have gL58_2 : jGet L58 2 = some (.int (i32 ((p + (1))))) := eL58 ▸ jg_eq
          refine jx_go (tg := 155) rfl rfl ?_
          exact ih155 _ (by omega) L58 G11 A46 (0) ((p + (1))) rfl gL58_0 gL58_1 gL58_2 hW47 hF48 (((hF17.1 46 rfl).trans (fx_46))) (by omega) (by omega) (by omega) (by omega) ((MQa_mv hFx (by decide) sgF49 (by decide) sgO53 sgN54 sg51 hwQ (by omega) (by omega) (by omega) (fun g => by omega) iv_2)) ((MBs_nx (MBs_mv hFx (by decide) sgF49 (by decide) sgO53 sgN54 sg51 sg52 hBA (by omega) (by omega) (by omega) (by omega) (fun g => g) iv_3) (by omega) (fun g => by omega) (show A46 37 (p).toNat = mo2_14 from (q50)) (show A46 38 (p).toNat = r13 from (congrFun ((congrFun eA46 38).trans (uA_ne (by decide))) _).trans (q40)) sf55 (by omega) (by omega)))
        · have _q := h56
          refine jx_ld (pc_q := 212) (l_q := L) (st_q := [.ref 66]) rfl (jl_aloadn gL_0) ?_
          refine jr_get (pc_q := 215) (i := 56) (v := .ref 104) rfl rfl (by decide) rfl rfl ?_
          refine jx_ld (pc_q := 216) (l_q := L) (st_q := [.int (i32 (p)), .ref 104]) rfl (jl_iloadn gL_2) ?_
          refine jr_ldv (pc_q := 217) (i := 37) (m := 6) (z := p) (y := mo2_14) rfl (by decide) rfl (by decide) (by omega) (by omega) rfl (show A46 37 (p).toNat = mo2_14 from (q50)) ?_
          refine jx_ld (pc_q := 218) (l_q := L) (st_q := [.ref 66, .int (i32 (mo2_14))]) rfl (jl_aloadn gL_0) ?_
          refine jr_get (pc_q := 221) (i := 57) (v := .ref 105) rfl rfl (by decide) rfl rfl ?_
          refine jx_ld (pc_q := 222) (l_q := L) (st_q := [.int (i32 (p)), .ref 105, .int (i32 (mo2_14))]) rfl (jl_iloadn gL_2) ?_
          refine jr_ldv (pc_q := 223) (i := 38) (m := 6) (z := p) (y := r13) rfl (by decide) rfl (by decide) (by omega) (by omega) rfl (show A46 38 (p).toNat = r13 from (congrFun ((congrFun eA46 38).trans (uA_ne (by decide))) _).trans (q40)) ?_
          refine jx_add (pc_q := 224) rfl rfl ?_
          refine jx_ar (pc_q := 225) (st_q := [.int (i32 (3)), .int (i32 ((mo2_14 + r13)))]) rfl rfl rfl rfl ?_
          refine jx_add (pc_q := 226) rfl rfl ?_
          refine jx_ar (pc_q := 229) (st_q := [.int (i32 (4000)), .int (i32 (((mo2_14 + r13) + 3)))]) rfl rfl rfl rfl ?_
          refine jx_icmp_gt (pc_q := 232) (tg := 236) rfl rfl rfl (by omega) (by omega) (by decide) (by decide) (fun h59 => ?_) (fun h59 => ?_)
          · have _q := h59
            refine jx_ar (pc_q := 237) (st_q := [.int (i32 (0))]) rfl rfl rfl rfl ?_
            refine jx_ld (pc_q := 238) (l_q := jSto1 L 1 (.int (i32 (0)))) (st_q := []) rfl rfl ?_
            obtain ⟨L60, eL60⟩ : ∃ q, q = jSto1 L 1 (.int (i32 (0))) := ⟨_, rfl⟩
            rw [← eL60]
            have gL60_0 : jGet L60 0 = some (.ref 66) := eL60 ▸ jg_ne (by decide) gL_0 rfl
            have gL60_2 : jGet L60 2 = some (.int (i32 (p))) := eL60 ▸ jg_ne (by decide) gL_2 rfl
            have gL60_1 : jGet L60 1 = some (.int (i32 (0))) := eL60 ▸ jg_eq
            refine jx_inc (pc_q := 241) (l_q := jSto1 L60 2 (.int (i32 ((p + (1)))))) (x := p) rfl gL60_2 (by decide) rfl rfl ?_
            obtain ⟨L61, eL61⟩ : ∃ q, q = jSto1 L60 2 (.int (i32 ((p + (1))))) := ⟨_, rfl⟩
            rw [← eL61]
            have gL61_0 : jGet L61 0 = some (.ref 66) := eL61 ▸ jg_ne (by decide) gL60_0 rfl
            have gL61_1 : jGet L61 1 = some (.int (i32 (0))) := eL61 ▸ jg_ne (by decide) gL60_1 rfl
            have gL61_2 : jGet L61 2 = some (.int (i32 ((p + (1))))) := eL61 ▸ jg_eq
            refine jx_go (tg := 155) rfl rfl ?_
            exact ih155 _ (by omega) L61 G11 A46 (0) ((p + (1))) rfl gL61_0 gL61_1 gL61_2 hW47 hF48 (((hF17.1 46 rfl).trans (fx_46))) (by omega) (by omega) (by omega) (by omega) ((MQa_mv hFx (by decide) sgF49 (by decide) sgO53 sgN54 sg51 hwQ (by omega) (by omega) (by omega) (fun g => by omega) iv_2)) ((MBs_nx (MBs_mv hFx (by decide) sgF49 (by decide) sgO53 sgN54 sg51 sg52 hBA (by omega) (by omega) (by omega) (by omega) (fun g => g) iv_3) (by omega) (fun g => by omega) (show A46 37 (p).toNat = mo2_14 from (q50)) (show A46 38 (p).toNat = r13 from (congrFun ((congrFun eA46 38).trans (uA_ne (by decide))) _).trans (q40)) sf55 (by omega) (by omega)))
          · have _q := h59
            refine jx_ar (pc_q := 233) (st_q := [.int (i32 (1))]) rfl rfl rfl rfl ?_
            refine jx_go (tg := 237) rfl rfl ?_
            refine jx_ld (pc_q := 238) (l_q := jSto1 L 1 (.int (i32 (1)))) (st_q := []) rfl rfl ?_
            obtain ⟨L62, eL62⟩ : ∃ q, q = jSto1 L 1 (.int (i32 (1))) := ⟨_, rfl⟩
            rw [← eL62]
            have gL62_0 : jGet L62 0 = some (.ref 66) := eL62 ▸ jg_ne (by decide) gL_0 rfl
            have gL62_2 : jGet L62 2 = some (.int (i32 (p))) := eL62 ▸ jg_ne (by decide) gL_2 rfl
            have gL62_1 : jGet L62 1 = some (.int (i32 (1))) := eL62 ▸ jg_eq
            refine jx_inc (pc_q := 241) (l_q := jSto1 L62 2 (.int (i32 ((p + (1)))))) (x := p) rfl gL62_2 (by decide) rfl rfl ?_
            obtain ⟨L63, eL63⟩ : ∃ q, q = jSto1 L62 2 (.int (i32 ((p + (1))))) := ⟨_, rfl⟩
            rw [← eL63]
            have gL63_0 : jGet L63 0 = some (.ref 66) := eL63 ▸ jg_ne (by decide) gL62_0 rfl
            have gL63_1 : jGet L63 1 = some (.int (i32 (1))) := eL63 ▸ jg_ne (by decide) gL62_1 rfl
            have gL63_2 : jGet L63 2 = some (.int (i32 ((p + (1))))) := eL63 ▸ jg_eq
            refine jx_go (tg := 155) rfl rfl ?_
            exact ih155 _ (by omega) L63 G11 A46 (1) ((p + (1))) rfl gL63_0 gL63_1 gL63_2 hW47 hF48 (((hF17.1 46 rfl).trans (fx_46))) (by omega) (by omega) (by omega) (by omega) ((MQa_mv hFx (by decide) sgF49 (by decide) sgO53 sgN54 sg51 hwQ (by omega) (by omega) (by omega) (fun g => by omega) iv_2)) ((MBs_nx (MBs_mv hFx (by decide) sgF49 (by decide) sgO53 sgN54 sg51 sg52 hBA (by omega) (by omega) (by omega) (by omega) (fun g => g) iv_3) (by omega) (fun g => by omega) (show A46 37 (p).toNat = mo2_14 from (q50)) (show A46 38 (p).toNat = r13 from (congrFun ((congrFun eA46 38).trans (uA_ne (by decide))) _).trans (q40)) sf55 (by omega) (by omega)))
set_option maxRecDepth 20000 in
set_option maxHeartbeats 4000000 in
theorem c_measureAll_at_4 {X : jX} {d : Nat} {c0 c1 : jC} {G : Nat → Int} {A : Nat → Nat → Int} {T : jH} {pc nd sy lk : Int} (hd : 2 * 18 + 31 ≤ d + 1) (hW : Wk G A) (e_pc : G 46 = pc) (e_nd : G 31 = nd) (e_sy : G 19 = sy) (e_lk : G 52 = lk) (p_0 : TT A (pc) (nd) (sy) (lk)) : ∀ (m : Nat) (L : jL) (Gx : Nat → Int) (Ax : Nat → Nat → Int) (ft p : Int), (pc - p).toNat = m → jGet L 0 = some (.ref 66) → jGet L 1 = some (.int (i32 ft)) → jGet L 2 = some (.int (i32 p)) → Wk Gx Ax → Fr [59, 60] [9, 10, 25, 26, 27, 32, 33, 37, 38] G A Gx Ax → Gx 46 = pc → ((-2147483648 : Int) ≤ ft ∧ ft ≤ 2147483647) → ((-2147483648 : Int) ≤ p ∧ p ≤ 2147483647) → (0 ≤ ft ∧ ft ≤ 1) → (0 ≤ p ∧ p ≤ pc) → (MQa A Ax (p) (ft)) → wj X d jm322 (4, L, [], rV c0 c1 Gx Ax T) (fun o V_q => ∃ (G_q : Nat → Int) (A_q : Nat → Nat → Int) (r : Int) (pc2 : Int), V_q = rV c0 c1 G_q A_q T ∧ o = .inl (some (.int (i32 r))) ∧ Wk G_q A_q ∧ Fr [59, 60] [9, 10, 25, 26, 27, 32, 33, 37, 38] G A G_q A_q ∧ ((0 : Int) ≤ r ∧ r ≤ 1) ∧ G_q 46 = pc2 ∧ ((r = 1 ∧ (LL A A_q (pc))) ∨ (r = 0))) := by
  have hF0 : Fr [59, 60] [9, 10, 25, 26, 27, 32, 33, 37, 38] G A G A := Fr_rf
  have b_pc : (0 : Int) ≤ pc ∧ pc ≤ 24 := e_pc ▸ hW.1 46
  have b_nd : (0 : Int) ≤ nd ∧ nd ≤ 6999 := e_nd ▸ hW.1 31
  have b_sy : (0 : Int) ≤ sy ∧ sy ≤ 202 := e_sy ▸ hW.1 19
  have b_lk : (0 : Int) ≤ lk ∧ lk ≤ 12 := e_lk ▸ hW.1 52
  have hp0 := p_0
  obtain ⟨Vs, lo, s0, t0, ht0, hlk, h2s, hvb, hVL, hwQ, hwK, hwB⟩ := hp0
  obtain ⟨aF, bF, uF, vF, hBA⟩ := wB_ba hwB
  have hle := wQ_le hwQ
  have hwl := wB_le hwB
  intro m
  induction m using Nat.strongRecOn with
  | ind m ih4 =>
    intro L Gx Ax ft p hm gL_0 gL_1 gL_2 hWx hFx fx_46 rx_ft rx_p iv_0 iv_1 iv_2
    have at_24 : ∀ (m : Nat) (L : jL) (Gx : Nat → Int) (Ax : Nat → Nat → Int) (kk : Int), (A 30 (p).toNat - kk).toNat = m → jGet L 0 = some (.ref 66) → jGet L 1 = some (.int (i32 (ft))) → jGet L 2 = some (.int (i32 (p))) → jGet L 3 = some (.int (i32 kk)) → Wk Gx Ax → Fr [59, 60] [9, 10, 25, 26, 27, 32, 33, 37, 38] G A Gx Ax → Gx 46 = pc → Gx 60 = 0 → Gx 59 = 1 → ((-2147483648 : Int) ≤ kk ∧ kk ≤ 2147483647) → (p < pc) → (0 ≤ kk) → (kk ≤ A 30 (p).toNat) → (MQa A Ax (p) (ft)) → (PK A Ax (p) (kk)) → wj X d jm322 (24, L, [], rV c0 c1 Gx Ax T) (fun o V_q => ∃ (G_q : Nat → Int) (A_q : Nat → Nat → Int) (r : Int) (pc2 : Int), V_q = rV c0 c1 G_q A_q T ∧ o = .inl (some (.int (i32 r))) ∧ Wk G_q A_q ∧ Fr [59, 60] [9, 10, 25, 26, 27, 32, 33, 37, 38] G A G_q A_q ∧ ((0 : Int) ≤ r ∧ r ≤ 1) ∧ G_q 46 = pc2 ∧ ((r = 1 ∧ (LL A A_q (pc))) ∨ (r = 0))) := by
      intro m
      induction m using Nat.strongRecOn with
      | ind m ih24 =>
        intro L Gx Ax kk hm gL_0 gL_1 gL_2 gL_3 hWx hFx fx_46 fx_60 fx_59 rx_kk iv_0 iv_1 iv_2 iv_3 iv_4
        refine jx_ld (pc_q := 25) (l_q := L) (st_q := [.int (i32 (kk))]) rfl (jl_iloadn gL_3) ?_
        refine jx_ld (pc_q := 26) (l_q := L) (st_q := [.ref 66, .int (i32 (kk))]) rfl (jl_aloadn gL_0) ?_
        refine jr_get (pc_q := 29) (i := 48) (v := .ref 97) rfl rfl (by decide) rfl rfl ?_
        refine jx_ld (pc_q := 30) (l_q := L) (st_q := [.int (i32 (p)), .ref 97, .int (i32 (kk))]) rfl (jl_iloadn gL_2) ?_
        have b64 : (0 : Int) ≤ A 30 (p).toNat ∧ A 30 (p).toNat ≤ 6 := hW.2 30 _
        refine jr_ldv (pc_q := 31) (i := 30) (m := 25) (z := p) (y := A 30 (p).toNat) rfl (by decide) rfl (by decide) (by omega) (by omega) rfl (show Ax 30 (p).toNat = A 30 (p).toNat from (congrFun (hFx.2 30 rfl) _)) ?_
        refine jx_icmp_ge (pc_q := 34) (tg := 70) rfl rfl rfl (Int.le_trans (by decide : (-2147483648 : Int) ≤ -2147483648) rx_kk.1) (Int.le_trans rx_kk.2 (by decide : (2147483647 : Int) ≤ 2147483647)) (Int.le_trans (by decide : (-2147483648 : Int) ≤ 0) b64.1) (Int.le_trans b64.2 (by decide : (6 : Int) ≤ 2147483647)) (fun h65 => ?_) (fun h65 => ?_)
        · have _q := h65
          obtain ⟨Vq, lo1, hi1, sq, s1q, hwq, hh1, hh2, k1, k2, k3, k4, k5, k6, k7, k8, k9⟩ := wQ_at (q := (p).toNat) hwQ (by omega); have hwqi := wP_in k9; have sgF0 : Fr [59, 60] [9, 10, 25, 26, 27, 32, 33, 37, 38] Gx Ax Gx Ax := Fr_rf; have sgO0 : Fo [25, 26, 27] (lo1) (hi1) Ax Ax := Fo_rf; have sgN0 : Fo [9, 10] (sq + 1 + A 30 (p).toNat) (s1q) Ax Ax := Fo_rf; have sgQ0 : Fx [32, 33] (p) Ax Ax := Fx_rf
          refine jx_ld (pc_q := 71) (l_q := L) (st_q := [.ref 66]) rfl (jl_aloadn gL_0) ?_
          refine jx_ar (pc_q := 72) (st_q := [.int (i32 (1)), .ref 66]) rfl rfl rfl rfl ?_
          refine jx_ld (pc_q := 73) (l_q := L) (st_q := [.ref 66, .int (i32 (1)), .ref 66]) rfl (jl_aloadn gL_0) ?_
          refine jr_get (pc_q := 76) (i := 48) (v := .ref 97) rfl rfl (by decide) rfl rfl ?_
          refine jx_ld (pc_q := 77) (l_q := L) (st_q := [.int (i32 (p)), .ref 97, .int (i32 (1)), .ref 66]) rfl (jl_iloadn gL_2) ?_
          refine jr_ldv (pc_q := 78) (i := 30) (m := 25) (z := p) (y := A 30 (p).toNat) rfl (by decide) rfl (by decide) (by omega) (by omega) rfl (show Ax 30 (p).toNat = A 30 (p).toNat from (congrFun (hFx.2 30 rfl) _)) ?_
          refine jx_add (pc_q := 79) rfl rfl ?_
          refine jx_vr (pc_q := 82) (as := [.int (i32 ((1 + A 30 (p).toNat)))]) (st := []) rfl rfl rfl rfl ⟨rfl, rfl, Nat.le_of_ble_eq_true rfl⟩ rfl rfl (c_reach (dd := d) (hd := by omega) (hW := hWx) (free := (1 + A 30 (p).toNat)) (mo := 1) (e_mo := show Gx 59 = 1 from (fx_59))  (h_free := ⟨(by omega), (by omega)⟩)  (p_0 := by omega) (p_1 := by omega)) (fun o V_q hq => ?_)
          obtain ⟨G66, A67, mo2_68, rfl, rfl, hW69, hF70, e71, p72, p73, p74, -⟩ := hq
          have hF76 := Fr_tr hFx hF70 (Fr_sub (by decide)) (Fr_sub (by decide))
          have sgO77 := Fo_f sgO0 hF70 (by decide)
          have sgN78 := Fo_f sgN0 hF70 (by decide)
          have sg79 := Fx_f sgQ0 hF70 (by decide)
          have sgF80 := Fr_tr sgF0 hF70 (Fr_sub (by decide)) (Fr_sub (by decide))
          have sf81 : MQa A A67 (p) (ft) := (show A67 = Ax from funext (fun k => hF70.2 k rfl)) ▸ iv_3
          have sf82 : PK A A67 (p) (kk) := (show A67 = Ax from funext (fun k => hF70.2 k rfl)) ▸ iv_4
          have bmo2_68 : (-2147483648 : Int) ≤ mo2_68 ∧ mo2_68 ≤ 2147483647 := e71 ▸ hW69.1 59
          refine .inl ⟨rfl, ?_⟩
          refine jx_ld (pc_q := 83) (l_q := L) (st_q := [.ref 66]) rfl (jl_aloadn gL_0) ?_
          refine jr_get (pc_q := 86) (i := 51) (v := .ref 100) rfl rfl (by decide) rfl rfl ?_
          refine jx_ld (pc_q := 87) (l_q := L) (st_q := [.int (i32 (p)), .ref 100]) rfl (jl_iloadn gL_2) ?_
          refine jx_ld (pc_q := 88) (l_q := L) (st_q := [.ref 66, .int (i32 (p)), .ref 100]) rfl (jl_aloadn gL_0) ?_
          refine jx_ld (pc_q := 89) (l_q := L) (st_q := [.ref 66, .ref 66, .int (i32 (p)), .ref 100]) rfl (jl_aloadn gL_0) ?_
          refine jr_get (pc_q := 92) (i := 49) (v := .ref 98) rfl rfl (by decide) rfl rfl ?_
          refine jx_ld (pc_q := 93) (l_q := L) (st_q := [.int (i32 (p)), .ref 98, .ref 66, .int (i32 (p)), .ref 100]) rfl (jl_iloadn gL_2) ?_
          have b83 : (-2147483648 : Int) ≤ A 31 (p).toNat ∧ A 31 (p).toNat ≤ 2147483647 := hW.2 31 _
          refine jr_ldv (pc_q := 94) (i := 31) (m := 25) (z := p) (y := A 31 (p).toNat) rfl (by decide) rfl (by decide) (by omega) (by omega) rfl (show A67 31 (p).toNat = A 31 (p).toNat from (congrFun ((hF70.2 31 rfl).trans (hFx.2 31 rfl)) _)) ?_
          refine jx_ar (pc_q := 95) (st_q := [.int (i32 (1)), .int (i32 (A 31 (p).toNat)), .ref 66, .int (i32 (p)), .ref 100]) rfl rfl rfl rfl ?_
          refine jx_ld (pc_q := 96) (l_q := L) (st_q := [.ref 66, .int (i32 (1)), .int (i32 (A 31 (p).toNat)), .ref 66, .int (i32 (p)), .ref 100]) rfl (jl_aloadn gL_0) ?_
          refine jr_get (pc_q := 99) (i := 48) (v := .ref 97) rfl rfl (by decide) rfl rfl ?_
          refine jx_ld (pc_q := 100) (l_q := L) (st_q := [.int (i32 (p)), .ref 97, .int (i32 (1)), .int (i32 (A 31 (p).toNat)), .ref 66, .int (i32 (p)), .ref 100]) rfl (jl_iloadn gL_2) ?_
          refine jr_ldv (pc_q := 101) (i := 30) (m := 25) (z := p) (y := A 30 (p).toNat) rfl (by decide) rfl (by decide) (by omega) (by omega) rfl (show A67 30 (p).toNat = A 30 (p).toNat from (congrFun ((hF70.2 30 rfl).trans (hFx.2 30 rfl)) _)) ?_
          refine jx_add (pc_q := 102) rfl rfl ?_
          refine jx_vr (pc_q := 105) (as := [.int (i32 (A 31 (p).toNat)), .int (i32 ((1 + A 30 (p).toNat)))]) (st := [.int (i32 (p)), .ref 100]) rfl rfl rfl rfl ⟨rfl, rfl, Nat.le_of_ble_eq_true rfl⟩ rfl rfl (MM_all X 18 (dd := d) (hd := by omega) (hW := hW69) (n := A 31 (p).toNat) (fr := (1 + A 30 (p).toNat)) (lo := lo1) (hi := hi1) (s0 := sq + 1 + A 30 (p).toNat) (s1 := s1q) (mo := mo2_68) (e_mo := show G66 59 = mo2_68 from (e71)) (lv := 0) (e_lv := show G66 60 = 0 from ((hF70.1 60 rfl).trans (fx_60)))  (h_n := ⟨(Int.le_trans (by decide : (-2147483648 : Int) ≤ -2147483648) b83.1), (Int.le_trans b83.2 (by decide : (2147483647 : Int) ≤ 2147483647))⟩) (h_fr := ⟨(by omega), (by omega)⟩)  (p_0 := by omega) (p_1 := by omega) (p_2 := by omega) (p_3 := by omega) (p_4 := by omega) (p_5 := by omega) (p_6 := by omega) (p_7 := by omega) (p_8 := (PS_to (by omega) (MQa_ps (fun q hq => by obtain ⟨_, _, _, _, _, _, _, _, _, _, _, g, _⟩ := wQ_at (q := q) hwQ (by omega); exact g) sf81))) (p_9 := by omega) (p_10 := by omega) (p_11 := by omega) (p_12 := (wP_fr2 hF76 (by decide) (by omega) (by omega) k9)) (p_13 := by omega)) (fun o V_q hq => ?_)
          obtain ⟨G84, A85, r86, mo2_87, lv2_88, rfl, rfl, hW89, hF90, hQ91, hQ92, b93, e94, e95, p96, p97, p98, p99, p100, p101, -⟩ := hq
          have hF103 := Fr_tr hF76 hF90 (Fr_sub (by decide)) (Fr_sub (by decide))
          have sgO104 := Fo_tr sgO77 hQ91 (by omega) (by omega)
          have sgN105 := Fo_tr sgN78 hQ92 (by omega) (by omega)
          have sg106 := Fx_f sg79 hF90 (by decide)
          have sgF107 := Fr_tr sgF80 hF90 (Fr_sub (by decide)) (Fr_sub (by decide))
          have bmo2_87 : (-2147483648 : Int) ≤ mo2_87 ∧ mo2_87 ≤ 2147483647 := e94 ▸ hW89.1 59
          have blv2_88 : (-2147483648 : Int) ≤ lv2_88 ∧ lv2_88 ≤ 2147483647 := e95 ▸ hW89.1 60
          refine .inr ⟨_, rfl, ?_⟩
          refine jr_st (pc_q := 106) (i := 33) (m := 25) (z := p) (y := r86) rfl (by decide) rfl (by decide) (by omega) (by omega) rfl ?_
          have hW109 : Wk G84 (uA A85 33 (p).toNat (r86)) := Wk_a hW89 (show (-2147483648 : Int) ≤ r86 by omega) (show r86 ≤ (2147483647 : Int) by omega)
          have hF110 := Fr_a (z := r86) (k := 33) (n := (p).toNat) hF103 (by decide)
          have sgF111 := Fr_a (z := r86) (k := 33) (n := (p).toNat) sgF107 (by decide)
          obtain ⟨A108, eA108⟩ : ∃ q, q = uA A85 33 (p).toNat (r86) := ⟨_, rfl⟩
          rw [← eA108]
          rw [← eA108] at hW109 hF110 sgF111
          have q112 : A108 33 (p).toNat = r86 := by rw [eA108]; exact uA_eq
          have sg113 : Fx [32, 33] (p) _ A108 := eA108 ▸ Fx_a sg106 (z := p) (by omega) (by omega)
          have sgO114 : Fo [25, 26, 27] (lo1) (hi1) _ A108 := eA108 ▸ Fo_n sgO104 rfl
          have sgN115 : Fo [9, 10] (sq + 1 + A 30 (p).toNat) (s1q) _ A108 := eA108 ▸ Fo_n sgN105 rfl
          have sf116 : lP A108 (18) (A 31 (p).toNat) (1 + A 30 (p).toNat) (0) (mo2_87) (r86) := lP_qs eA108 (by decide) (by omega) (by omega) (by omega) (by omega) (wP_fr2 hF103 (by decide) (by omega) (by omega) k9) p101
          refine jx_ld (pc_q := 107) (l_q := L) (st_q := [.ref 66]) rfl (jl_aloadn gL_0) ?_
          refine jr_get (pc_q := 110) (i := 50) (v := .ref 99) rfl rfl (by decide) rfl rfl ?_
          refine jx_ld (pc_q := 111) (l_q := L) (st_q := [.int (i32 (p)), .ref 99]) rfl (jl_iloadn gL_2) ?_
          refine jx_ld (pc_q := 112) (l_q := L) (st_q := [.ref 66, .int (i32 (p)), .ref 99]) rfl (jl_aloadn gL_0) ?_
          refine jr_get (pc_q := 115) (i := 59) (v := .int (i32 (mo2_87))) rfl rfl (by decide) (rFv_eq (by decide) (show G84 59 = mo2_87 from (e94))) rfl ?_
          refine jr_st (pc_q := 116) (i := 32) (m := 25) (z := p) (y := mo2_87) rfl (by decide) rfl (by decide) (by omega) (by omega) rfl ?_
          have hW118 : Wk G84 (uA A108 32 (p).toNat (mo2_87)) := Wk_a hW109 (show (-2147483648 : Int) ≤ mo2_87 by omega) (show mo2_87 ≤ (2147483647 : Int) by omega)
          have hF119 := Fr_a (z := mo2_87) (k := 32) (n := (p).toNat) hF110 (by decide)
          have sgF120 := Fr_a (z := mo2_87) (k := 32) (n := (p).toNat) sgF111 (by decide)
          obtain ⟨A117, eA117⟩ : ∃ q, q = uA A108 32 (p).toNat (mo2_87) := ⟨_, rfl⟩
          rw [← eA117]
          rw [← eA117] at hW118 hF119 sgF120
          have q121 : A117 32 (p).toNat = mo2_87 := by rw [eA117]; exact uA_eq
          have sg122 : Fx [32, 33] (p) _ A117 := eA117 ▸ Fx_a sg113 (z := p) (by omega) (by omega)
          have sgO123 : Fo [25, 26, 27] (lo1) (hi1) _ A117 := eA117 ▸ Fo_n sgO114 rfl
          have sgN124 : Fo [9, 10] (sq + 1 + A 30 (p).toNat) (s1q) _ A117 := eA117 ▸ Fo_n sgN115 rfl
          have sf125 : lP A117 (18) (A 31 (p).toNat) (1 + A 30 (p).toNat) (0) (mo2_87) (r86) := lP_qs eA117 (by decide) (by omega) (by omega) (by omega) (by omega) (wP_fr2 hF110 (by decide) (by omega) (by omega) k9) sf116
          refine jx_ld (pc_q := 117) (l_q := L) (st_q := [.int (i32 (ft))]) rfl (jl_iloadn gL_1) ?_
          refine jx_if_eq (pc_q := 120) (tg := 145) rfl rfl rfl (by omega) (by omega) (fun h126 => ?_) (fun h126 => ?_)
          · have _q := h126
            refine jx_ar (pc_q := 146) (st_q := [.int (i32 (0))]) rfl rfl rfl rfl ?_
            refine jx_ld (pc_q := 147) (l_q := jSto1 L 1 (.int (i32 (0)))) (st_q := []) rfl rfl ?_
            obtain ⟨L127, eL127⟩ : ∃ q, q = jSto1 L 1 (.int (i32 (0))) := ⟨_, rfl⟩
            rw [← eL127]
            have gL127_0 : jGet L127 0 = some (.ref 66) := eL127 ▸ jg_ne (by decide) gL_0 rfl
            have gL127_2 : jGet L127 2 = some (.int (i32 (p))) := eL127 ▸ jg_ne (by decide) gL_2 rfl
            have gL127_3 : jGet L127 3 = some (.int (i32 (kk))) := eL127 ▸ jg_ne (by decide) gL_3 rfl
            have gL127_1 : jGet L127 1 = some (.int (i32 (0))) := eL127 ▸ jg_eq
            refine jx_inc (pc_q := 150) (l_q := jSto1 L127 2 (.int (i32 ((p + (1)))))) (x := p) rfl gL127_2 (by decide) rfl rfl ?_
            obtain ⟨L128, eL128⟩ : ∃ q, q = jSto1 L127 2 (.int (i32 ((p + (1))))) := ⟨_, rfl⟩
            rw [← eL128]
            have gL128_0 : jGet L128 0 = some (.ref 66) := eL128 ▸ jg_ne (by decide) gL127_0 rfl
            have gL128_3 : jGet L128 3 = some (.int (i32 (kk))) := eL128 ▸ jg_ne (by decide) gL127_3 rfl
            have gL128_1 : jGet L128 1 = some (.int (i32 (0))) := eL128 ▸ jg_ne (by decide) gL127_1 rfl
            have gL128_2 : jGet L128 2 = some (.int (i32 ((p + (1))))) := eL128 ▸ jg_eq
            refine jx_go (tg := 4) rfl rfl ?_
            exact ih4 _ (by omega) L128 G84 A117 (0) ((p + (1))) rfl gL128_0 gL128_1 gL128_2 hW118 hF119 (((hF90.1 46 rfl).trans ((hF70.1 46 rfl).trans (fx_46)))) (by omega) (by omega) (by omega) (by omega) ((MQa_nx (MQa_mv hFx (by decide) sgF120 (by decide) sgO123 sgN124 sg122 hwq (by omega) (by omega) (by omega) (fun g => g) iv_3) (by omega) (fun g => by omega) (show A117 32 (p).toNat = mo2_87 from (q121)) (show A117 33 (p).toNat = r86 from (congrFun ((congrFun eA117 33).trans (uA_ne (by decide))) _).trans (q112)) sf125 (by omega) (by omega) (by omega) (by omega) (PK_mv sgN124 (by omega) (by omega) (PK_k (by omega) iv_4))))
          · have _q := h126
            refine jx_ld (pc_q := 121) (l_q := L) (st_q := [.ref 66]) rfl (jl_aloadn gL_0) ?_
            refine jr_get (pc_q := 124) (i := 50) (v := .ref 99) rfl rfl (by decide) rfl rfl ?_
            refine jx_ld (pc_q := 125) (l_q := L) (st_q := [.int (i32 (p)), .ref 99]) rfl (jl_iloadn gL_2) ?_
            refine jr_ldv (pc_q := 126) (i := 32) (m := 25) (z := p) (y := mo2_87) rfl (by decide) rfl (by decide) (by omega) (by omega) rfl (show A117 32 (p).toNat = mo2_87 from (q121)) ?_
            refine jx_ld (pc_q := 127) (l_q := L) (st_q := [.ref 66, .int (i32 (mo2_87))]) rfl (jl_aloadn gL_0) ?_
            refine jr_get (pc_q := 130) (i := 51) (v := .ref 100) rfl rfl (by decide) rfl rfl ?_
            refine jx_ld (pc_q := 131) (l_q := L) (st_q := [.int (i32 (p)), .ref 100, .int (i32 (mo2_87))]) rfl (jl_iloadn gL_2) ?_
            refine jr_ldv (pc_q := 132) (i := 33) (m := 25) (z := p) (y := r86) rfl (by decide) rfl (by decide) (by omega) (by omega) rfl (show A117 33 (p).toNat = r86 from (congrFun ((congrFun eA117 33).trans (uA_ne (by decide))) _).trans (q112)) ?_
            refine jx_add (pc_q := 133) rfl rfl ?_
            refine jx_ar (pc_q := 134) (st_q := [.int (i32 (3)), .int (i32 ((mo2_87 + r86)))]) rfl rfl rfl rfl ?_
            refine jx_add (pc_q := 135) rfl rfl ?_
            refine jx_ar (pc_q := 138) (st_q := [.int (i32 (4000)), .int (i32 (((mo2_87 + r86) + 3)))]) rfl rfl rfl rfl ?_
            refine jx_icmp_gt (pc_q := 141) (tg := 145) rfl rfl rfl (by omega) (by omega) (by decide) (by decide) (fun h129 => ?_) (fun h129 => ?_)
            · have _q := h129
              refine jx_ar (pc_q := 146) (st_q := [.int (i32 (0))]) rfl rfl rfl rfl ?_
              refine jx_ld (pc_q := 147) (l_q := jSto1 L 1 (.int (i32 (0)))) (st_q := []) rfl rfl ?_
              obtain ⟨L130, eL130⟩ : ∃ q, q = jSto1 L 1 (.int (i32 (0))) := ⟨_, rfl⟩
              rw [← eL130]
              have gL130_0 : jGet L130 0 = some (.ref 66) := eL130 ▸ jg_ne (by decide) gL_0 rfl
              have gL130_2 : jGet L130 2 = some (.int (i32 (p))) := eL130 ▸ jg_ne (by decide) gL_2 rfl
              have gL130_3 : jGet L130 3 = some (.int (i32 (kk))) := eL130 ▸ jg_ne (by decide) gL_3 rfl
              have gL130_1 : jGet L130 1 = some (.int (i32 (0))) := eL130 ▸ jg_eq
              refine jx_inc (pc_q := 150) (l_q := jSto1 L130 2 (.int (i32 ((p + (1)))))) (x := p) rfl gL130_2 (by decide) rfl rfl ?_
              obtain ⟨L131, eL131⟩ : ∃ q, q = jSto1 L130 2 (.int (i32 ((p + (1))))) := ⟨_, rfl⟩
              rw [← eL131]
              have gL131_0 : jGet L131 0 = some (.ref 66) := eL131 ▸ jg_ne (by decide) gL130_0 rfl
              have gL131_3 : jGet L131 3 = some (.int (i32 (kk))) := eL131 ▸ jg_ne (by decide) gL130_3 rfl
              have gL131_1 : jGet L131 1 = some (.int (i32 (0))) := eL131 ▸ jg_ne (by decide) gL130_1 rfl
              have gL131_2 : jGet L131 2 = some (.int (i32 ((p + (1))))) := eL131 ▸ jg_eq
              refine jx_go (tg := 4) rfl rfl ?_
              exact ih4 _ (by omega) L131 G84 A117 (0) ((p + (1))) rfl gL131_0 gL131_1 gL131_2 hW118 hF119 (((hF90.1 46 rfl).trans ((hF70.1 46 rfl).trans (fx_46)))) (by omega) (by omega) (by omega) (by omega) ((MQa_nx (MQa_mv hFx (by decide) sgF120 (by decide) sgO123 sgN124 sg122 hwq (by omega) (by omega) (by omega) (fun g => g) iv_3) (by omega) (fun g => by omega) (show A117 32 (p).toNat = mo2_87 from (q121)) (show A117 33 (p).toNat = r86 from (congrFun ((congrFun eA117 33).trans (uA_ne (by decide))) _).trans (q112)) sf125 (by omega) (by omega) (by omega) (by omega) (PK_mv sgN124 (by omega) (by omega) (PK_k (by omega) iv_4))))
            · have _q := h129
              refine jx_ar (pc_q := 142) (st_q := [.int (i32 (1))]) rfl rfl rfl rfl ?_
              refine jx_go (tg := 146) rfl rfl ?_
              refine jx_ld (pc_q := 147) (l_q := jSto1 L 1 (.int (i32 (1)))) (st_q := []) rfl rfl ?_
              obtain ⟨L132, eL132⟩ : ∃ q, q = jSto1 L 1 (.int (i32 (1))) := ⟨_, rfl⟩
              rw [← eL132]
              have gL132_0 : jGet L132 0 = some (.ref 66) := eL132 ▸ jg_ne (by decide) gL_0 rfl
              have gL132_2 : jGet L132 2 = some (.int (i32 (p))) := eL132 ▸ jg_ne (by decide) gL_2 rfl
              have gL132_3 : jGet L132 3 = some (.int (i32 (kk))) := eL132 ▸ jg_ne (by decide) gL_3 rfl
              have gL132_1 : jGet L132 1 = some (.int (i32 (1))) := eL132 ▸ jg_eq
              refine jx_inc (pc_q := 150) (l_q := jSto1 L132 2 (.int (i32 ((p + (1)))))) (x := p) rfl gL132_2 (by decide) rfl rfl ?_
              obtain ⟨L133, eL133⟩ : ∃ q, q = jSto1 L132 2 (.int (i32 ((p + (1))))) := ⟨_, rfl⟩
              rw [← eL133]
              have gL133_0 : jGet L133 0 = some (.ref 66) := eL133 ▸ jg_ne (by decide) gL132_0 rfl
              have gL133_3 : jGet L133 3 = some (.int (i32 (kk))) := eL133 ▸ jg_ne (by decide) gL132_3 rfl
              have gL133_1 : jGet L133 1 = some (.int (i32 (1))) := eL133 ▸ jg_ne (by decide) gL132_1 rfl
              have gL133_2 : jGet L133 2 = some (.int (i32 ((p + (1))))) := eL133 ▸ jg_eq
              refine jx_go (tg := 4) rfl rfl ?_
              exact ih4 _ (by omega) L133 G84 A117 (1) ((p + (1))) rfl gL133_0 gL133_1 gL133_2 hW118 hF119 (((hF90.1 46 rfl).trans ((hF70.1 46 rfl).trans (fx_46)))) (by omega) (by omega) (by omega) (by omega) ((MQa_nx (MQa_mv hFx (by decide) sgF120 (by decide) sgO123 sgN124 sg122 hwq (by omega) (by omega) (by omega) (fun g => g) iv_3) (by omega) (fun g => by omega) (show A117 32 (p).toNat = mo2_87 from (q121)) (show A117 33 (p).toNat = r86 from (congrFun ((congrFun eA117 33).trans (uA_ne (by decide))) _).trans (q112)) sf125 (by omega) (by omega) (by omega) (by omega) (PK_mv sgN124 (by omega) (by omega) (PK_k (by omega) iv_4))))
        · have _q := h65
          obtain ⟨Vq, lo1, hi1, sq, s1q, hwq, hh1, hh2, k1, k2, k3, k4, k5, k6, k7, k8, k9⟩ := wQ_at (q := (p).toNat) hwQ (by omega); have hwqi := wP_in k9; have sgF0 : Fr [59, 60] [9, 10, 25, 26, 27, 32, 33, 37, 38] Gx Ax Gx Ax := Fr_rf; have sgO0 : Fo [25, 26, 27] (lo1) (lo1) Ax Ax := Fo_rf; have sgN0 : Fo [9, 10] (A 29 (p).toNat + kk) (A 29 (p).toNat + kk + 1) Ax Ax := Fo_rf; have sgQ0 : Fx [32, 33] (p) Ax Ax := Fx_rf
          refine jx_ld (pc_q := 35) (l_q := L) (st_q := [.ref 66]) rfl (jl_aloadn gL_0) ?_
          refine jr_get (pc_q := 38) (i := 23) (v := .ref 76) rfl rfl (by decide) rfl rfl ?_
          refine jx_ld (pc_q := 39) (l_q := L) (st_q := [.ref 66, .ref 76]) rfl (jl_aloadn gL_0) ?_
          refine jr_get (pc_q := 42) (i := 47) (v := .ref 96) rfl rfl (by decide) rfl rfl ?_
          refine jx_ld (pc_q := 43) (l_q := L) (st_q := [.int (i32 (p)), .ref 96, .ref 76]) rfl (jl_iloadn gL_2) ?_
          have b134 : (0 : Int) ≤ A 29 (p).toNat ∧ A 29 (p).toNat ≤ 202 := hW.2 29 _
          refine jr_ldv (pc_q := 44) (i := 29) (m := 25) (z := p) (y := A 29 (p).toNat) rfl (by decide) rfl (by decide) (by omega) (by omega) rfl (show Ax 29 (p).toNat = A 29 (p).toNat from (congrFun (hFx.2 29 rfl) _)) ?_
          refine jx_ld (pc_q := 45) (l_q := L) (st_q := [.int (i32 (kk)), .int (i32 (A 29 (p).toNat)), .ref 76]) rfl (jl_iloadn gL_3) ?_
          refine jx_add (pc_q := 46) rfl rfl ?_
          refine jx_ar (pc_q := 47) (st_q := [.int (i32 (1)), .int (i32 ((A 29 (p).toNat + kk))), .ref 76]) rfl rfl rfl rfl ?_
          refine jx_ld (pc_q := 48) (l_q := L) (st_q := [.int (i32 (kk)), .int (i32 (1)), .int (i32 ((A 29 (p).toNat + kk))), .ref 76]) rfl (jl_iloadn gL_3) ?_
          refine jx_add (pc_q := 49) rfl rfl ?_
          refine jr_st (pc_q := 50) (i := 9) (m := 260) (z := (A 29 (p).toNat + kk)) (y := (1 + kk)) rfl (by decide) rfl (by decide) (by omega) (by omega) rfl ?_
          have hW136 : Wk Gx (uA Ax 9 ((A 29 (p).toNat + kk)).toNat ((1 + kk))) := Wk_a hWx (show (-2147483648 : Int) ≤ (1 + kk) by omega) (show (1 + kk) ≤ (2147483647 : Int) by omega)
          have hF137 := Fr_a (z := (1 + kk)) (k := 9) (n := ((A 29 (p).toNat + kk)).toNat) hFx (by decide)
          have sgF138 := Fr_a (z := (1 + kk)) (k := 9) (n := ((A 29 (p).toNat + kk)).toNat) sgF0 (by decide)
          obtain ⟨A135, eA135⟩ : ∃ q, q = uA Ax 9 ((A 29 (p).toNat + kk)).toNat ((1 + kk)) := ⟨_, rfl⟩
          rw [← eA135]
          rw [← eA135] at hW136 hF137 sgF138
          have q139 : A135 9 ((A 29 (p).toNat + kk)).toNat = (1 + kk) := by rw [eA135]; exact uA_eq
          have sg140 : Fx [32, 33] (p) _ A135 := eA135 ▸ Fx_n sgQ0 rfl
          have sgO141 : Fo [25, 26, 27] (lo1) (lo1) _ A135 := eA135 ▸ Fo_n sgO0 rfl
          have sgN142 := eA135 ▸ Fo_a sgN0 (z := (A 29 (p).toNat + kk)) (v := (1 + kk)) (k := 9) (by omega) (by omega) (by omega)
          refine jx_ld (pc_q := 51) (l_q := L) (st_q := [.ref 66]) rfl (jl_aloadn gL_0) ?_
          refine jr_get (pc_q := 54) (i := 24) (v := .ref 77) rfl rfl (by decide) rfl rfl ?_
          refine jx_ld (pc_q := 55) (l_q := L) (st_q := [.ref 66, .ref 77]) rfl (jl_aloadn gL_0) ?_
          refine jr_get (pc_q := 58) (i := 47) (v := .ref 96) rfl rfl (by decide) rfl rfl ?_
          refine jx_ld (pc_q := 59) (l_q := L) (st_q := [.int (i32 (p)), .ref 96, .ref 77]) rfl (jl_iloadn gL_2) ?_
          refine jr_ldv (pc_q := 60) (i := 29) (m := 25) (z := p) (y := A 29 (p).toNat) rfl (by decide) rfl (by decide) (by omega) (by omega) rfl (show A135 29 (p).toNat = A 29 (p).toNat from (congrFun (((congrFun eA135 29).trans (uA_ne (by decide))).trans (hFx.2 29 rfl)) _)) ?_
          refine jx_ld (pc_q := 61) (l_q := L) (st_q := [.int (i32 (kk)), .int (i32 (A 29 (p).toNat)), .ref 77]) rfl (jl_iloadn gL_3) ?_
          refine jx_add (pc_q := 62) rfl rfl ?_
          refine jx_ar (pc_q := 63) (st_q := [.int (i32 (0)), .int (i32 ((A 29 (p).toNat + kk))), .ref 77]) rfl rfl rfl rfl ?_
          refine jr_st (pc_q := 64) (i := 10) (m := 260) (z := (A 29 (p).toNat + kk)) (y := 0) rfl (by decide) rfl (by decide) (by omega) (by omega) rfl ?_
          have hW144 : Wk Gx (uA A135 10 ((A 29 (p).toNat + kk)).toNat (0)) := Wk_a hW136 (show (-2147483648 : Int) ≤ 0 by omega) (show 0 ≤ (2147483647 : Int) by omega)
          have hF145 := Fr_a (z := 0) (k := 10) (n := ((A 29 (p).toNat + kk)).toNat) hF137 (by decide)
          have sgF146 := Fr_a (z := 0) (k := 10) (n := ((A 29 (p).toNat + kk)).toNat) sgF138 (by decide)
          obtain ⟨A143, eA143⟩ : ∃ q, q = uA A135 10 ((A 29 (p).toNat + kk)).toNat (0) := ⟨_, rfl⟩
          rw [← eA143]
          rw [← eA143] at hW144 hF145 sgF146
          have q147 : A143 10 ((A 29 (p).toNat + kk)).toNat = 0 := by rw [eA143]; exact uA_eq
          have sg148 : Fx [32, 33] (p) _ A143 := eA143 ▸ Fx_n sg140 rfl
          have sgO149 : Fo [25, 26, 27] (lo1) (lo1) _ A143 := eA143 ▸ Fo_n sgO141 rfl
          have sgN150 := eA143 ▸ Fo_a sgN142 (z := (A 29 (p).toNat + kk)) (v := 0) (k := 10) (by omega) (by omega) (by omega)
          refine jx_inc (pc_q := 67) (l_q := jSto1 L 3 (.int (i32 ((kk + (1)))))) (x := kk) rfl gL_3 (by decide) rfl rfl ?_
          obtain ⟨L151, eL151⟩ : ∃ q, q = jSto1 L 3 (.int (i32 ((kk + (1))))) := ⟨_, rfl⟩
          rw [← eL151]
          have gL151_0 : jGet L151 0 = some (.ref 66) := eL151 ▸ jg_ne (by decide) gL_0 rfl
          have gL151_1 : jGet L151 1 = some (.int (i32 (ft))) := eL151 ▸ jg_ne (by decide) gL_1 rfl
          have gL151_2 : jGet L151 2 = some (.int (i32 (p))) := eL151 ▸ jg_ne (by decide) gL_2 rfl
          have gL151_3 : jGet L151 3 = some (.int (i32 ((kk + (1))))) := eL151 ▸ jg_eq
          refine jx_go (tg := 24) rfl rfl ?_
          exact ih24 _ (by omega) L151 Gx A143 ((kk + (1))) rfl gL151_0 gL151_1 gL151_2 gL151_3 hW144 hF145 ((fx_46)) ((fx_60)) ((fx_59)) (by omega) (by omega) (by omega) (by omega) ((MQa_mv hFx (by decide) sgF146 (by decide) sgO149 sgN150 sg148 hwq (by omega) (by omega) (by omega) (fun g => g) iv_3)) ((PK_nx (s := (A 29 (p).toNat + kk)) (PK_mv sgN150 (by omega) (by omega) iv_4) (by omega) (show A143 9 ((A 29 (p).toNat + kk)).toNat = (1 + kk) from (congrFun ((congrFun eA143 9).trans (uA_ne (by decide))) _).trans (q139)) (show A143 10 ((A 29 (p).toNat + kk)).toNat = 0 from (q147)) (by omega) (by omega)))
    refine jx_ld (pc_q := 5) (l_q := L) (st_q := [.int (i32 (p))]) rfl (jl_iloadn gL_2) ?_
    refine jx_ld (pc_q := 6) (l_q := L) (st_q := [.ref 66, .int (i32 (p))]) rfl (jl_aloadn gL_0) ?_
    refine jr_get (pc_q := 9) (i := 46) (v := .int (i32 (pc))) rfl rfl (by decide) (rFv_eq (by decide) (show Gx 46 = pc from (fx_46))) rfl ?_
    refine jx_icmp_ge (pc_q := 12) (tg := 153) rfl rfl rfl (Int.le_trans (by decide : (-2147483648 : Int) ≤ -2147483648) rx_p.1) (Int.le_trans rx_p.2 (by decide : (2147483647 : Int) ≤ 2147483647)) (Int.le_trans (by decide : (-2147483648 : Int) ≤ 0) b_pc.1) (Int.le_trans b_pc.2 (by decide : (24 : Int) ≤ 2147483647)) (fun h152 => ?_) (fun h152 => ?_)
    · have _q := h152
      refine jx_ar (pc_q := 154) (st_q := [.int (i32 (0))]) rfl rfl rfl rfl ?_
      refine jx_ld (pc_q := 155) (l_q := jSto1 L 2 (.int (i32 (0)))) (st_q := []) rfl rfl ?_
      obtain ⟨L153, eL153⟩ : ∃ q, q = jSto1 L 2 (.int (i32 (0))) := ⟨_, rfl⟩
      rw [← eL153]
      have gL153_0 : jGet L153 0 = some (.ref 66) := eL153 ▸ jg_ne (by decide) gL_0 rfl
      have gL153_1 : jGet L153 1 = some (.int (i32 (ft))) := eL153 ▸ jg_ne (by decide) gL_1 rfl
      have gL153_2 : jGet L153 2 = some (.int (i32 (0))) := eL153 ▸ jg_eq
      exact c_measureAll_at_155 (X := X) (d := d) (c0 := c0) (c1 := c1) (G := G) (A := A) (T := T) (pc := pc) (nd := nd) (sy := sy) (lk := lk) (hd := hd) (hW := hW) (e_pc := e_pc) (e_nd := e_nd) (e_sy := e_sy) (e_lk := e_lk) (p_0 := p_0) _ L153 Gx Ax (ft) (0) rfl gL153_0 gL153_1 gL153_2 hWx hFx ((fx_46)) (by omega) (by omega) (by omega) (by omega) ((MQa_p (by omega) iv_2)) ((MBs_0 (by omega)))
    · have _q := h152
      obtain ⟨Vq, lo1, hi1, sq, s1q, hwq, hh1, hh2, k1, k2, k3, k4, k5, k6, k7, k8, k9⟩ := wQ_at (q := (p).toNat) hwQ (by omega); have hwqi := wP_in k9; have _q : True := trivial
      refine jx_ld (pc_q := 13) (l_q := L) (st_q := [.ref 66]) rfl (jl_aloadn gL_0) ?_
      refine jx_ar (pc_q := 14) (st_q := [.int (i32 (0)), .ref 66]) rfl rfl rfl rfl ?_
      refine jr_put (pc_q := 17) (i := 60) (z := 0) rfl rfl (by decide) rfl rfl rfl rfl rfl rfl ?_
      have hW154 : Wk (uG Gx 60 (0)) Ax := Wk_g hWx (show (-2147483648 : Int) ≤ 0 by omega) (show 0 ≤ (2147483647 : Int) by omega)
      have hF155 := Fr_g (z := 0) (i := 60) hFx (by decide)
      refine jx_ld (pc_q := 18) (l_q := L) (st_q := [.ref 66]) rfl (jl_aloadn gL_0) ?_
      refine jx_ar (pc_q := 19) (st_q := [.int (i32 (1)), .ref 66]) rfl rfl rfl rfl ?_
      refine jr_put (pc_q := 22) (i := 59) (z := 1) rfl rfl (by decide) rfl rfl rfl rfl rfl rfl ?_
      have hW156 : Wk (uG (uG Gx 60 (0)) 59 (1)) Ax := Wk_g hW154 (show (-2147483648 : Int) ≤ 1 by omega) (show 1 ≤ (2147483647 : Int) by omega)
      have hF157 := Fr_g (z := 1) (i := 59) hF155 (by decide)
      refine jx_ar (pc_q := 23) (st_q := [.int (i32 (0))]) rfl rfl rfl rfl ?_
      refine jx_ld (pc_q := 24) (l_q := jSto1 L 3 (.int (i32 (0)))) (st_q := []) rfl rfl ?_
      obtain ⟨L158, eL158⟩ : ∃ q, q = jSto1 L 3 (.int (i32 (0))) := ⟨_, rfl⟩
      rw [← eL158]
      have gL158_0 : jGet L158 0 = some (.ref 66) := eL158 ▸ jg_ne (by decide) gL_0 rfl
      have gL158_1 : jGet L158 1 = some (.int (i32 (ft))) := eL158 ▸ jg_ne (by decide) gL_1 rfl
      have gL158_2 : jGet L158 2 = some (.int (i32 (p))) := eL158 ▸ jg_ne (by decide) gL_2 rfl
      have gL158_3 : jGet L158 3 = some (.int (i32 (0))) := eL158 ▸ jg_eq
      exact at_24 _ L158 (uG (uG Gx 60 (0)) 59 (1)) Ax (0) rfl gL158_0 gL158_1 gL158_2 gL158_3 hW156 hF157 ((fx_46)) (rfl) (rfl) (by omega) (by omega) (by omega) (by omega) (iv_2) ((PK_0 (by omega)))
set_option maxRecDepth 20000 in
set_option maxHeartbeats 4000000 in
theorem c_measureAll {X : jX} {dd : Nat} {c0 c1 : jC} {G : Nat → Int} {A : Nat → Nat → Int} {T : jH} {pc nd sy lk : Int} (hd : 2 * 18 + 31 ≤ dd) (hW : Wk G A) (e_pc : G 46 = pc) (e_nd : G 31 = nd) (e_sy : G 19 = sy) (e_lk : G 52 = lk) (p_0 : TT A (pc) (nd) (sy) (lk)) : wk X dd 322 [.ref 66] (rV c0 c1 G A T) (fun o V_q => ∃ (G_q : Nat → Int) (A_q : Nat → Nat → Int) (r : Int) (pc2 : Int), V_q = rV c0 c1 G_q A_q T ∧ o = .inl (some (.int (i32 r))) ∧ Wk G_q A_q ∧ Fr [59, 60] [9, 10, 25, 26, 27, 32, 33, 37, 38] G A G_q A_q ∧ ((0 : Int) ≤ r ∧ r ≤ 1) ∧ G_q 46 = pc2 ∧ ((r = 1 ∧ (LL A A_q (pc))) ∨ (r = 0))) := by
  obtain ⟨d, rfl⟩ : ∃ d, dd = d + 1 := ⟨dd - 1, by omega⟩
  refine wk_of (e := jm322) rfl (Nat.le_of_ble_eq_true rfl) ?_
  show wj X d jm322 (0, [(0, .ref 66)], [], rV c0 c1 G A T) _
  have hF0 : Fr [59, 60] [9, 10, 25, 26, 27, 32, 33, 37, 38] G A G A := Fr_rf
  have b_pc : (0 : Int) ≤ pc ∧ pc ≤ 24 := e_pc ▸ hW.1 46
  have b_nd : (0 : Int) ≤ nd ∧ nd ≤ 6999 := e_nd ▸ hW.1 31
  have b_sy : (0 : Int) ≤ sy ∧ sy ≤ 202 := e_sy ▸ hW.1 19
  have b_lk : (0 : Int) ≤ lk ∧ lk ≤ 12 := e_lk ▸ hW.1 52
  have hp0 := p_0
  obtain ⟨Vs, lo, s0, t0, ht0, hlk, h2s, hvb, hVL, hwQ, hwK, hwB⟩ := hp0
  obtain ⟨aF, bF, uF, vF, hBA⟩ := wB_ba hwB
  have hle := wQ_le hwQ
  have hwl := wB_le hwB
  refine jx_ar (pc_q := 1) (st_q := [.int (i32 (1))]) rfl rfl rfl rfl ?_
  refine jx_ld (pc_q := 2) (l_q := jSto1 [(0, .ref 66)] 1 (.int (i32 (1)))) (st_q := []) rfl rfl ?_
  obtain ⟨L159, eL159⟩ : ∃ q, q = jSto1 [(0, .ref 66)] 1 (.int (i32 (1))) := ⟨_, rfl⟩
  rw [← eL159]
  have gL159_0 : jGet L159 0 = some (.ref 66) := eL159 ▸ jg_ne (by decide) (rfl : jGet [(0, .ref 66)] 0 = some (.ref 66)) rfl
  have gL159_1 : jGet L159 1 = some (.int (i32 (1))) := eL159 ▸ jg_eq
  refine jx_ar (pc_q := 3) (st_q := [.int (i32 (0))]) rfl rfl rfl rfl ?_
  refine jx_ld (pc_q := 4) (l_q := jSto1 L159 2 (.int (i32 (0)))) (st_q := []) rfl rfl ?_
  obtain ⟨L160, eL160⟩ : ∃ q, q = jSto1 L159 2 (.int (i32 (0))) := ⟨_, rfl⟩
  rw [← eL160]
  have gL160_0 : jGet L160 0 = some (.ref 66) := eL160 ▸ jg_ne (by decide) gL159_0 rfl
  have gL160_1 : jGet L160 1 = some (.int (i32 (1))) := eL160 ▸ jg_ne (by decide) gL159_1 rfl
  have gL160_2 : jGet L160 2 = some (.int (i32 (0))) := eL160 ▸ jg_eq
  exact c_measureAll_at_4 (X := X) (d := d) (c0 := c0) (c1 := c1) (G := G) (A := A) (T := T) (pc := pc) (nd := nd) (sy := sy) (lk := lk) (hd := hd) (hW := hW) (e_pc := e_pc) (e_nd := e_nd) (e_sy := e_sy) (e_lk := e_lk) (p_0 := p_0) _ L160 G A (1) (0) rfl gL160_0 gL160_1 gL160_2 hW hF0 ((e_pc)) (by omega) (by omega) (by omega) (by omega) ((MQa_0 (by omega)))
