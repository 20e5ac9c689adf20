/-! a process is found in order -/
section
variable {T : Nat → Nat → Int} {Bu S : Int → Int} {w p : Int} {n : Nat}
theorem cs_no (k : T 15 p.toNat < 23 ∨ 32 < T 15 p.toNat)  : ckP T Bu w (n + 1) S p := ⟨fun w => by omega, fun w => by omega, fun w => by omega, fun w => by omega, fun w => by omega, fun w => by omega, fun w => by omega⟩
theorem cs_23 (k : T 15 p.toNat = 23) (h : OKc T w (T 17 (T 17 p.toNat).toNat) 4) : ckP T Bu w (n + 1) S p := ⟨fun _ => h, fun w => by omega, fun w => by omega, fun w => by omega, fun w => by omega, fun w => by omega, fun w => by omega⟩
theorem cs_24 (k : T 15 p.toNat = 24) (h : OKc T w (T 17 (T 17 p.toNat).toNat) 8) : ckP T Bu w (n + 1) S p := ⟨fun w => by omega, fun _ => h, fun w => by omega, fun w => by omega, fun w => by omega, fun w => by omega, fun w => by omega⟩
theorem cs_25 (k : T 15 p.toNat = 25) (h : ∀ l, CH T (T 21 p.toNat) l → (∀ a ∈ l, Aok T Bu w a) ∧ ∀ u1 a u2, l = u1 ++ a :: u2 → ∀ b ∈ u2, Arl T (Rf S) a b) : ckP T Bu w (n + 1) S p := ⟨fun w => by omega, fun w => by omega, fun _ => h, fun w => by omega, fun w => by omega, fun w => by omega, fun w => by omega⟩
theorem cs_26 (k : T 15 p.toNat = 26 ∨ T 15 p.toNat = 30 ∨ T 15 p.toNat = 32) (h : ∀ l, CH T (T 21 p.toNat) l → ∀ c ∈ l, rO T w (ckP T Bu w n S) c) : ckP T Bu w (n + 1) S p := ⟨fun w => by omega, fun w => by omega, fun w => by omega, fun _ => h, fun w => by omega, fun w => by omega, fun w => by omega⟩
theorem cs_27 (k : T 15 p.toNat = 27 ∨ T 15 p.toNat = 31) (h : ckP T Bu w n S (T 21 p.toNat)) : ckP T Bu w (n + 1) S p := ⟨fun w => by omega, fun w => by omega, fun w => by omega, fun w => by omega, fun _ => h, fun w => by omega, fun w => by omega⟩
theorem cs_28 (k : T 15 p.toNat = 28) (h : ∀ l, CH T (T 21 p.toNat) l → ∀ c ∈ l, rO T w (ckP T Bu w n S) c) (g : PKO T Bu S n p (T 23 p.toNat + T 24 p.toNat)) : ckP T Bu w (n + 1) S p := ⟨fun w => by omega, fun w => by omega, fun w => by omega, fun _ => h, fun w => by omega, fun _ => g, fun w => by omega⟩
theorem cs_29 (k : T 15 p.toNat = 29) (g : PKO T Bu S n p (T 23 p.toNat + T 24 p.toNat)) (h : ∀ i : Nat, (i : Int) < T 20 p.toNat → ckP T Bu w n (sB T S p i) (T 21 p.toNat)) : ckP T Bu w (n + 1) S p := ⟨fun w => by omega, fun w => by omega, fun w => by omega, fun w => by omega, fun w => by omega, fun _ => g, fun _ => h⟩
end
theorem ZR_p {T : Nat → Nat → Int} {sb pb : Int} {k : Nat} {V : Nat → Prop} {Z : Int → Prop} {f lo hi s0 s1 : Int} {l0 : List Int} (c0 : CH T f l0) (w : wCs (wP T sb pb k V) l0 lo hi s0 s1) (z : ∀ l, CH T f l → ∀ c ∈ l, Z c) : ∀ l, CH T f l → ∀ c ∈ l, (T 15 c.toNat ≠ 33 → T 15 c.toNat ≠ 34 → Z c) ∧ (T 15 c.toNat = 33 ∨ T 15 c.toNat = 34 → Z (T 21 c.toNat)) := fun l hl c hc => by
  refine ⟨fun _ _ => z l hl c hc, fun q => ?_⟩
  have e := CH_u hl c0
  subst e
  obtain ⟨_, _, _, _, _, _, _, _, h⟩ := wCs_mem w hc
  have := wP_kd h
  omega
theorem ZR_c {T : Nat → Nat → Int} {sb pb : Int} {k : Nat} {V : Nat → Prop} {Z : Int → Prop} {f lo hi s0 s1 : Int} {l0 : List Int} (c0 : CH T f l0) (w : wCs (wI T V sb (wP T sb pb k V)) l0 lo hi s0 s1 ∨ wCs (wG T V sb (wP T sb pb k V)) l0 lo hi s0 s1) (z : ∀ l, CH T f l → ∀ c ∈ l, Z (T 21 c.toNat)) : ∀ l, CH T f l → ∀ c ∈ l, (T 15 c.toNat ≠ 33 → T 15 c.toNat ≠ 34 → Z c) ∧ (T 15 c.toNat = 33 ∨ T 15 c.toNat = 34 → Z (T 21 c.toNat)) := fun l hl c hc => by
  refine ⟨fun q1 q2 => ?_, fun _ => z l hl c hc⟩
  have e := CH_u hl c0
  subst e
  rcases w with w | w
  · obtain ⟨_, _, _, _, _, _, _, _, h⟩ := wCs_mem w hc
    exact absurd h.2.1 q2
  · obtain ⟨_, _, _, _, _, _, _, _, h⟩ := wCs_mem w hc
    exact absurd h.2.1 q1
set_option maxRecDepth 20000 in
set_option maxHeartbeats 4000000 in
theorem c_check_s_at_137 {X : jX} {k : Nat} (hC : CK X k) {d : Nat} {T0 : Nat → Nat → Int} {Sn Bu : Int → Int} {Vs : Nat → Prop} {sb pb nd : Int} {Fm : Int → Int → Int → Prop} {c0 c1 : jC} {G : Nat → Int} {A : Nat → Nat → Int} {T : jH} {p : Int} {lo hi s0 s1 : Int} {wl wh : Int} (hd : 3 * (k + 1) + 80 ≤ d + 1) (hW : Wk G A) (e_wl : G 67 = wl) (e_wh : G 68 = wh) (h_p : (-2147483648 : Int) ≤ p ∧ p ≤ 2147483647) (p_0 : TA T0 A) (p_1 : 1 ≤ lo) (p_2 : hi ≤ nd) (p_3 : nd ≤ 6999) (p_4 : sb ≤ 202) (p_5 : 0 ≤ s0) (p_6 : s1 ≤ sb) (p_7 : VB (Vs) (s0)) (p_8 : SA T0 Vs Sn A) (p_9 : BUr T0 Bu pb A) (p_10 : Fbd Fm 7324) (p_11 : LKV T0 Vs) (p_12 : MRx T0 A nd) (p_13 : -1 ≤ wl ∧ wl ≤ 3000) (p_14 : ((k + 1 : Nat) : Int) ≤ 18) (p_15 : wP T0 sb pb (k + 1) (Vs) (p) (lo) (hi) (s0) (s1)) (p_16 : vP T0 Bu (k + 1) Sn (fun s al e _ => Fm s al e) (p)) : ∀ (m : Nat) (L : jL) (Gx : Nat → Int) (Ax : Nat → Nat → Int) (i wl1 : Int), (T0 20 (p).toNat - i).toNat = m → jGet L 0 = some (.ref 66) → jGet L 1 = some (.int (i32 (p))) → jGet L 2 = some (.int (i32 i)) → Wk Gx Ax → Fr [61, 62, 67] [13, 39, 40, 41, 42, 43] G A Gx Ax → Gx 67 = wl1 → ((-2147483648 : Int) ≤ i ∧ i ≤ 2147483647) → (-1 ≤ wl1 ∧ wl1 ≤ 3000) → (wl = -1 ∨ 0 ≤ wl1) → (SA T0 (Vd Vs s0 (s0 + T0 24 (p).toNat)) Sn Ax) → (T0 15 (p).toNat = 29) → (0 ≤ i) → (i ≤ T0 20 (p).toNat) → (T0 20 (p).toNat ≤ 8) → ((wl1) = -1 → PKO T0 Bu Sn k (p) (T0 23 (p).toNat + T0 24 (p).toNat)) → ((wl1) = -1 → UXg T0 (ckP T0 Bu wh k) Sn (p) (i)) → wj X d jm339 (137, L, [], rV c0 c1 Gx Ax T) (fun o V_q => ∃ (G_q : Nat → Int) (A_q : Nat → Nat → Int) (wl2 : Int), V_q = rV c0 c1 G_q A_q T ∧ o = .inl none ∧ Wk G_q A_q ∧ Fr [61, 62, 67] [13, 39, 40, 41, 42, 43] G A G_q A_q ∧ G_q 67 = wl2 ∧ (-1 ≤ wl2 ∧ wl2 ≤ 3000) ∧ (wl = -1 ∨ 0 ≤ wl2) ∧ (SA T0 Vs Sn A_q) ∧ ((wl2) = -1 → ckP T0 Bu wh (k + 1) Sn (p)) ∧ True) := by
  have hF0 : Fr [61, 62, 67] [13, 39, 40, 41, 42, 43] G A G A := Fr_rf
  have b_wl : (-2147483648 : Int) ≤ wl ∧ wl ≤ 2147483647 := e_wl ▸ hW.1 67
  have b_wh : (-2147483648 : Int) ≤ wh ∧ wh ≤ 2147483647 := e_wh ▸ hW.1 68
  have hWT := TA_w hW p_0
  have hwp := p_15; unfold wP at hwp; obtain ⟨w1, w2, w3, w4, w5, w6, w7, w8⟩ := hwp; have hz : vS T0 Bu (vP T0 Bu k) Sn (fun s al e _ => Fm s al e) p := p_16; have hSA1 : SA T0 (Vd Vs s0 (s0 + T0 24 (p).toNat)) Sn A := SA_d p_8 w7; have hVB1 : VB (Vd Vs s0 (s0 + T0 24 (p).toNat)) (s0 + T0 24 (p).toNat) := VB_d p_7 (by omega); have hkk := wS_kd w8; have hLK1 : LKV T0 (Vd Vs s0 (s0 + T0 24 (p).toNat)) := LKV_d p_11 w7
  intro m
  induction m using Nat.strongRecOn with
  | ind m ih137 =>
    intro L Gx Ax i wl1 hm gL_0 gL_1 gL_2 hWx hFx ex_wl1 rx_i iv_0 iv_1 iv_2 iv_3 iv_4 iv_5 iv_6 iv_7 iv_8
    have b_wl1 : (-2147483648 : Int) ≤ wl1 ∧ wl1 ≤ 2147483647 := ex_wl1 ▸ hWx.1 67
    obtain ⟨g1, g2, g3, g4, g5, g6, g7, g8⟩ := wS_i29 w8 iv_3
    refine jx_ld (pc_q := 138) (l_q := L) (st_q := [.int (i32 (i))]) rfl (jl_iloadn gL_2) ?_
    refine jx_ld (pc_q := 139) (l_q := L) (st_q := [.ref 66, .int (i32 (i))]) rfl (jl_aloadn gL_0) ?_
    refine jr_get (pc_q := 142) (i := 37) (v := .ref 87) rfl rfl (by decide) rfl rfl ?_
    refine jx_ld (pc_q := 143) (l_q := L) (st_q := [.int (i32 (p)), .ref 87, .int (i32 (i))]) rfl (jl_iloadn gL_1) ?_
    have b1 : (-2147483648 : Int) ≤ T0 20 (p).toNat ∧ T0 20 (p).toNat ≤ 2147483647 := hWT.2 20 _
    refine jr_ldv (pc_q := 144) (i := 20) (m := 7000) (z := p) (y := T0 20 (p).toNat) rfl (by decide) rfl (by decide) (by omega) (by omega) rfl (show Ax 20 (p).toNat = T0 20 (p).toNat from (congrFun ((hFx.2 20 rfl).trans (p_0 20 rfl)) _)) ?_
    refine jx_icmp_ge (pc_q := 147) (tg := 182) rfl rfl rfl (Int.le_trans (by decide : (-2147483648 : Int) ≤ -2147483648) rx_i.1) (Int.le_trans rx_i.2 (by decide : (2147483647 : Int) ≤ 2147483647)) (Int.le_trans (by decide : (-2147483648 : Int) ≤ -2147483648) b1.1) (Int.le_trans b1.2 (by decide : (2147483647 : Int) ≤ 2147483647)) (fun h2 => ?_) (fun h2 => ?_)
    · have _q := h2
      refine jx_go (tg := 198) rfl rfl ?_
      have _q : True := trivial
      refine jx_rt (v := none) rfl rfl rfl rfl rfl rfl ?_
      exact ⟨_, _, wl1, rfl, rfl, hWx, hFx, (ex_wl1), by omega, by omega, (SA_su Vd_l iv_2), (fun q => cs_29 iv_3 (iv_7 q) (fun j hj => iv_8 q j (by omega))), trivial⟩
    · have _q := h2
      refine jx_ld (pc_q := 148) (l_q := L) (st_q := [.ref 66]) rfl (jl_aloadn gL_0) ?_
      refine jr_get (pc_q := 151) (i := 27) (v := .ref 80) rfl rfl (by decide) rfl rfl ?_
      refine jx_ld (pc_q := 152) (l_q := L) (st_q := [.ref 66, .ref 80]) rfl (jl_aloadn gL_0) ?_
      refine jr_get (pc_q := 155) (i := 34) (v := .ref 84) rfl rfl (by decide) rfl rfl ?_
      refine jx_ld (pc_q := 156) (l_q := L) (st_q := [.int (i32 (p)), .ref 84, .ref 80]) rfl (jl_iloadn gL_1) ?_
      have b3 : (-2147483648 : Int) ≤ T0 17 (p).toNat ∧ T0 17 (p).toNat ≤ 2147483647 := hWT.2 17 _
      refine jr_ldv (pc_q := 157) (i := 17) (m := 7000) (z := p) (y := T0 17 (p).toNat) rfl (by decide) rfl (by decide) (by omega) (by omega) rfl (show Ax 17 (p).toNat = T0 17 (p).toNat from (congrFun ((hFx.2 17 rfl).trans (p_0 17 rfl)) _)) ?_
      refine jx_ld (pc_q := 158) (l_q := L) (st_q := [.ref 66, .int (i32 (T0 17 (p).toNat)), .ref 80]) rfl (jl_aloadn gL_0) ?_
      refine jr_get (pc_q := 161) (i := 36) (v := .ref 86) rfl rfl (by decide) rfl rfl ?_
      refine jx_ld (pc_q := 162) (l_q := L) (st_q := [.int (i32 (p)), .ref 86, .int (i32 (T0 17 (p).toNat)), .ref 80]) rfl (jl_iloadn gL_1) ?_
      have b4 : (-2147483648 : Int) ≤ T0 19 (p).toNat ∧ T0 19 (p).toNat ≤ 2147483647 := hWT.2 19 _
      refine jr_ldv (pc_q := 163) (i := 19) (m := 7000) (z := p) (y := T0 19 (p).toNat) rfl (by decide) rfl (by decide) (by omega) (by omega) rfl (show Ax 19 (p).toNat = T0 19 (p).toNat from (congrFun ((hFx.2 19 rfl).trans (p_0 19 rfl)) _)) ?_
      refine jx_ld (pc_q := 164) (l_q := L) (st_q := [.int (i32 (i)), .int (i32 (T0 19 (p).toNat)), .int (i32 (T0 17 (p).toNat)), .ref 80]) rfl (jl_iloadn gL_2) ?_
      refine jx_add (pc_q := 165) rfl rfl ?_
      obtain ⟨v5, ev5⟩ : ∃ z, z = (i32 (T0 19 (p).toNat + i)).toInt := ⟨_, rfl⟩; have fv5 : i32 (T0 19 (p).toNat + i) = i32 v5 := (by rw [ev5]; exact (i32_of _).symm); rw [fv5]; have rv5 : (-2147483648 : Int) ≤ v5 ∧ v5 ≤ 2147483647 := ev5 ▸ i32_rg _
      refine jr_st (pc_q := 166) (i := 13) (m := 260) (z := T0 17 (p).toNat) (y := v5) rfl (by decide) rfl (by decide) (by omega) (by omega) rfl ?_
      have hW7 : Wk Gx (uA Ax 13 (T0 17 (p).toNat).toNat (v5)) := Wk_a hWx (show (-2147483648 : Int) ≤ v5 by omega) (show v5 ≤ (2147483647 : Int) by omega)
      have hF8 := Fr_a (z := v5) (k := 13) (n := (T0 17 (p).toNat).toNat) hFx (by decide)
      obtain ⟨A6, eA6⟩ : ∃ q, q = uA Ax 13 (T0 17 (p).toNat).toNat (v5) := ⟨_, rfl⟩
      rw [← eA6]
      rw [← eA6] at hW7 hF8
      have q9 : A6 13 (T0 17 (p).toNat).toNat = v5 := by rw [eA6]; exact uA_eq
      have hSA2 : SA T0 (Vu (Vd Vs s0 (s0 + T0 24 (p).toNat)) (T0 17 (p).toNat)) (sB T0 Sn p (i).toNat) A6 := SA_st eA6 (by omega) iv_2 (sB_t iv_3 rfl (by omega) ev5) (sB_o rfl); have g8b : wP T0 sb pb k (Vu (Vd Vs s0 (s0 + T0 24 (p).toNat)) (T0 17 (p).toNat)) (T0 21 (p).toNat) (p + 1) hi (T0 17 (p).toNat + 1) s1 := (by rw [g1]; exact g8); have hVBc : VB (Vu (Vd Vs s0 (s0 + T0 24 (p).toNat)) (T0 17 (p).toNat)) (T0 17 (p).toNat + 1) := VB_u hVB1 (by omega) (by omega); have hzc := hz.2.2.2.2.2.2.1 iv_3 (i).toNat (by omega); have i9 := wP_in g8b
      refine jx_ld (pc_q := 167) (l_q := L) (st_q := [.ref 66]) rfl (jl_aloadn gL_0) ?_
      refine jx_ld (pc_q := 168) (l_q := L) (st_q := [.ref 66, .ref 66]) rfl (jl_aloadn gL_0) ?_
      refine jr_get (pc_q := 171) (i := 38) (v := .ref 88) rfl rfl (by decide) rfl rfl ?_
      refine jx_ld (pc_q := 172) (l_q := L) (st_q := [.int (i32 (p)), .ref 88, .ref 66]) rfl (jl_iloadn gL_1) ?_
      have b10 : (-2147483648 : Int) ≤ T0 21 (p).toNat ∧ T0 21 (p).toNat ≤ 2147483647 := hWT.2 21 _
      refine jr_ldv (pc_q := 173) (i := 21) (m := 7000) (z := p) (y := T0 21 (p).toNat) rfl (by decide) rfl (by decide) (by omega) (by omega) rfl (show A6 21 (p).toNat = T0 21 (p).toNat from (congrFun (((congrFun eA6 21).trans (uA_ne (by decide))).trans ((hFx.2 21 rfl).trans (p_0 21 rfl))) _)) ?_
      refine jx_vr (pc_q := 176) (as := [.int (i32 (T0 21 (p).toNat))]) (st := []) rfl rfl rfl rfl ⟨rfl, rfl, Nat.le_of_ble_eq_true rfl⟩ rfl rfl (hC (dd := d) (hd := by omega) (hW := hW7) (p := T0 21 (p).toNat) (lo := p + 1) (hi := hi) (s0 := T0 17 (p).toNat + 1) (s1 := s1) (wl := wl1) (e_wl := show Gx 67 = wl1 from (ex_wl1)) (wh := wh) (e_wh := show Gx 68 = wh from ((hFx.1 68 rfl).trans (e_wh)))  (h_p := ⟨(Int.le_trans (by decide : (-2147483648 : Int) ≤ -2147483648) b10.1), (Int.le_trans b10.2 (by decide : (2147483647 : Int) ≤ 2147483647))⟩)  (p_0 := (TA_fr hF8 (by decide) p_0)) (p_1 := by omega) (p_2 := by omega) (p_3 := by omega) (p_4 := by omega) (p_5 := by omega) (p_6 := by omega) (p_7 := hVBc) (p_8 := hSA2) (p_9 := (BU_fr (show A6 11 = A 11 from (((congrFun eA6 11).trans (uA_ne (by decide))).trans (hFx.2 11 rfl))) p_9)) (p_10 := p_10) (p_11 := (LKV_u hLK1 (by rw [g1, g3]; decide))) (p_12 := (MR_fr (show A6 16 = A 16 from (((congrFun eA6 16).trans (uA_ne (by decide))).trans (hFx.2 16 rfl))) (show A6 28 = A 28 from (((congrFun eA6 28).trans (uA_ne (by decide))).trans (hFx.2 28 rfl))) p_12)) (p_13 := by omega) (p_14 := by omega) (p_15 := g8b) (p_16 := hzc)) (fun o V_q hq => ?_)
      obtain ⟨G11, A12, wl2_13, rfl, rfl, hW14, hF15, e16, p17, p18, p19, p20, -⟩ := hq
      have hF22 := Fr_tr hF8 hF15 (Fr_sub (by decide)) (Fr_sub (by decide))
      have bwl2_13 : (-2147483648 : Int) ≤ wl2_13 ∧ wl2_13 ≤ 2147483647 := e16 ▸ hW14.1 67
      refine .inl ⟨rfl, ?_⟩
      have hSA3 : SA T0 (Vd Vs s0 (s0 + T0 24 (p).toNat)) Sn A12 := SA_dn p19 hVB1 (by omega) (sB_o rfl)
      refine jx_inc (pc_q := 179) (l_q := jSto1 L 2 (.int (i32 ((i + (1)))))) (x := i) rfl gL_2 (by decide) rfl rfl ?_
      obtain ⟨L23, eL23⟩ : ∃ q, q = jSto1 L 2 (.int (i32 ((i + (1))))) := ⟨_, rfl⟩
      rw [← eL23]
      have gL23_0 : jGet L23 0 = some (.ref 66) := eL23 ▸ jg_ne (by decide) gL_0 rfl
      have gL23_1 : jGet L23 1 = some (.int (i32 (p))) := eL23 ▸ jg_ne (by decide) gL_1 rfl
      have gL23_2 : jGet L23 2 = some (.int (i32 ((i + (1))))) := eL23 ▸ jg_eq
      refine jx_go (tg := 137) rfl rfl ?_
      exact ih137 _ (by omega) L23 G11 A12 ((i + (1))) (wl2_13) rfl gL23_0 gL23_1 gL23_2 hW14 hF22 ((e16)) (by omega) (by omega) (by omega) (hSA3) (by omega) (by omega) (by omega) (by omega) ((fun q => iv_7 (by omega))) ((fun q => UXg_nx (iv_8 (by omega)) (by omega) rfl (p20 (by omega))))
set_option maxRecDepth 20000 in
set_option maxHeartbeats 4000000 in
theorem c_check_s {X : jX} {k : Nat} (hC : CK X k) {dd : Nat} {T0 : Nat → Nat → Int} {Sn Bu : Int → Int} {Vs : Nat → Prop} {sb pb nd : Int} {Fm : Int → Int → Int → Prop} {c0 c1 : jC} {G : Nat → Int} {A : Nat → Nat → Int} {T : jH} {p : Int} {lo hi s0 s1 : Int} {wl wh : Int} (hd : 3 * (k + 1) + 80 ≤ dd) (hW : Wk G A) (e_wl : G 67 = wl) (e_wh : G 68 = wh) (h_p : (-2147483648 : Int) ≤ p ∧ p ≤ 2147483647) (p_0 : TA T0 A) (p_1 : 1 ≤ lo) (p_2 : hi ≤ nd) (p_3 : nd ≤ 6999) (p_4 : sb ≤ 202) (p_5 : 0 ≤ s0) (p_6 : s1 ≤ sb) (p_7 : VB (Vs) (s0)) (p_8 : SA T0 Vs Sn A) (p_9 : BUr T0 Bu pb A) (p_10 : Fbd Fm 7324) (p_11 : LKV T0 Vs) (p_12 : MRx T0 A nd) (p_13 : -1 ≤ wl ∧ wl ≤ 3000) (p_14 : ((k + 1 : Nat) : Int) ≤ 18) (p_15 : wP T0 sb pb (k + 1) (Vs) (p) (lo) (hi) (s0) (s1)) (p_16 : vP T0 Bu (k + 1) Sn (fun s al e _ => Fm s al e) (p)) : wk X dd 339 [.ref 66, .int (i32 p)] (rV c0 c1 G A T) (fun o V_q => ∃ (G_q : Nat → Int) (A_q : Nat → Nat → Int) (wl2 : Int), V_q = rV c0 c1 G_q A_q T ∧ o = .inl none ∧ Wk G_q A_q ∧ Fr [61, 62, 67] [13, 39, 40, 41, 42, 43] G A G_q A_q ∧ G_q 67 = wl2 ∧ (-1 ≤ wl2 ∧ wl2 ≤ 3000) ∧ (wl = -1 ∨ 0 ≤ wl2) ∧ (SA T0 Vs Sn A_q) ∧ ((wl2) = -1 → ckP T0 Bu wh (k + 1) Sn (p)) ∧ True) := by
  obtain ⟨d, rfl⟩ : ∃ d, dd = d + 1 := ⟨dd - 1, by omega⟩
  refine wk_of (e := jm339) rfl (Nat.le_of_ble_eq_true rfl) ?_
  show wj X d jm339 (0, [(0, .ref 66), (1, .int (i32 (p)))], [], rV c0 c1 G A T) _
  have hF0 : Fr [61, 62, 67] [13, 39, 40, 41, 42, 43] G A G A := Fr_rf
  have b_wl : (-2147483648 : Int) ≤ wl ∧ wl ≤ 2147483647 := e_wl ▸ hW.1 67
  have b_wh : (-2147483648 : Int) ≤ wh ∧ wh ≤ 2147483647 := e_wh ▸ hW.1 68
  have hWT := TA_w hW p_0
  have hwp := p_15; unfold wP at hwp; obtain ⟨w1, w2, w3, w4, w5, w6, w7, w8⟩ := hwp; have hz : vS T0 Bu (vP T0 Bu k) Sn (fun s al e _ => Fm s al e) p := p_16; have hSA1 : SA T0 (Vd Vs s0 (s0 + T0 24 (p).toNat)) Sn A := SA_d p_8 w7; have hVB1 : VB (Vd Vs s0 (s0 + T0 24 (p).toNat)) (s0 + T0 24 (p).toNat) := VB_d p_7 (by omega); have hkk := wS_kd w8; have hLK1 : LKV T0 (Vd Vs s0 (s0 + T0 24 (p).toNat)) := LKV_d p_11 w7
  refine jx_ld (pc_q := 1) (l_q := [(0, .ref 66), (1, .int (i32 (p)))]) (st_q := [.ref 66]) rfl (jl_aloadn rfl) ?_
  refine jr_get (pc_q := 4) (i := 32) (v := .ref 82) rfl rfl (by decide) rfl rfl ?_
  refine jx_ld (pc_q := 5) (l_q := [(0, .ref 66), (1, .int (i32 (p)))]) (st_q := [.int (i32 (p)), .ref 82]) rfl (jl_iloadn rfl) ?_
  have b24 : (0 : Int) ≤ T0 15 (p).toNat ∧ T0 15 (p).toNat ≤ 34 := hWT.2 15 _
  refine jr_ldv (pc_q := 6) (i := 15) (m := 7000) (z := p) (y := T0 15 (p).toNat) rfl (by decide) rfl (by decide) (by omega) (by omega) rfl (show A 15 (p).toNat = T0 15 (p).toNat from (congrFun (p_0 15 rfl) _)) ?_
  rcases (by omega : T0 15 (p).toNat = 23 ∨ T0 15 (p).toNat = 24 ∨ T0 15 (p).toNat = 25 ∨ T0 15 (p).toNat = 26 ∨ T0 15 (p).toNat = 27 ∨ T0 15 (p).toNat = 28 ∨ T0 15 (p).toNat = 29 ∨ T0 15 (p).toNat = 30 ∨ T0 15 (p).toNat = 31 ∨ T0 15 (p).toNat = 32 ∨ (T0 15 (p).toNat < 23 ∨ 32 < T0 15 (p).toNat)) with h25 | h25 | h25 | h25 | h25 | h25 | h25 | h25 | h25 | h25 | h25
  · refine jx_swe (z := 23) (tg := 60) h25 rfl rfl rfl rfl ?_
    have hkd : T0 15 (p).toNat = 23 := (by omega); obtain ⟨g1, g2, g3⟩ := wS_i23 w8 hkd; have hqp := pX_wR g2; have hq1 := hqp.1; have hq2 := hqp.2.1; have hq3 := hqp.2.2.1.1; have hq4 := hqp.2.2.1.2.1; have hln := (p_12 p (by omega) (by omega)).2 (by omega)
    refine jx_ld (pc_q := 61) (l_q := [(0, .ref 66), (1, .int (i32 (p)))]) (st_q := [.ref 66]) rfl (jl_aloadn rfl) ?_
    refine jx_ld (pc_q := 62) (l_q := [(0, .ref 66), (1, .int (i32 (p)))]) (st_q := [.int (i32 (p)), .ref 66]) rfl (jl_iloadn rfl) ?_
    refine jx_ld (pc_q := 63) (l_q := [(0, .ref 66), (1, .int (i32 (p)))]) (st_q := [.ref 66, .int (i32 (p)), .ref 66]) rfl (jl_aloadn rfl) ?_
    refine jr_get (pc_q := 66) (i := 34) (v := .ref 84) rfl rfl (by decide) rfl rfl ?_
    refine jx_ld (pc_q := 67) (l_q := [(0, .ref 66), (1, .int (i32 (p)))]) (st_q := [.ref 66, .ref 84, .int (i32 (p)), .ref 66]) rfl (jl_aloadn rfl) ?_
    refine jr_get (pc_q := 70) (i := 34) (v := .ref 84) rfl rfl (by decide) rfl rfl ?_
    refine jx_ld (pc_q := 71) (l_q := [(0, .ref 66), (1, .int (i32 (p)))]) (st_q := [.int (i32 (p)), .ref 84, .ref 84, .int (i32 (p)), .ref 66]) rfl (jl_iloadn rfl) ?_
    have b26 : (-2147483648 : Int) ≤ T0 17 (p).toNat ∧ T0 17 (p).toNat ≤ 2147483647 := hWT.2 17 _
    refine jr_ldv (pc_q := 72) (i := 17) (m := 7000) (z := p) (y := T0 17 (p).toNat) rfl (by decide) rfl (by decide) (by omega) (by omega) rfl (show A 17 (p).toNat = T0 17 (p).toNat from (congrFun (p_0 17 rfl) _)) ?_
    have b27 : (-2147483648 : Int) ≤ T0 17 (T0 17 (p).toNat).toNat ∧ T0 17 (T0 17 (p).toNat).toNat ≤ 2147483647 := hWT.2 17 _
    refine jr_ldv (pc_q := 73) (i := 17) (m := 7000) (z := T0 17 (p).toNat) (y := T0 17 (T0 17 (p).toNat).toNat) rfl (by decide) rfl (by decide) (by omega) (by omega) rfl (show A 17 (T0 17 (p).toNat).toNat = T0 17 (T0 17 (p).toNat).toNat from (congrFun (p_0 17 rfl) _)) ?_
    refine jx_ar (pc_q := 74) (st_q := [.int (i32 (4)), .int (i32 (T0 17 (T0 17 (p).toNat).toNat)), .int (i32 (p)), .ref 66]) rfl rfl rfl rfl ?_
    have b28 : (-1 : Int) ≤ A 16 (p).toNat ∧ A 16 (p).toNat ≤ 3000 := hW.2 16 _
    refine jx_vr (pc_q := 77) (as := [.int (i32 (p)), .int (i32 (T0 17 (T0 17 (p).toNat).toNat)), .int (i32 (4))]) (st := []) rfl rfl rfl rfl ⟨rfl, rfl, Nat.le_of_ble_eq_true rfl⟩ rfl rfl (c_checkChannel (dd := d) (hd := by omega) (hW := hW) (n := p) (s := T0 17 (T0 17 (p).toNat).toNat) (u := 4) (wl := wl) (e_wl := show G 67 = wl from (e_wl)) (w := wh) (e_w := show G 68 = wh from (e_wh)) (lnn := A 16 (p).toNat) (e_lnn := show A 16 (p).toNat = A 16 (p).toNat from rfl)  (h_n := ⟨(Int.le_trans (by decide : (-2147483648 : Int) ≤ -2147483648) h_p.1), (Int.le_trans h_p.2 (by decide : (2147483647 : Int) ≤ 2147483647))⟩) (h_s := ⟨(Int.le_trans (by decide : (-2147483648 : Int) ≤ -2147483648) b27.1), (Int.le_trans b27.2 (by decide : (2147483647 : Int) ≤ 2147483647))⟩) (h_u := ⟨(by decide), (by decide)⟩)  (p_0 := p_0) (p_1 := by omega) (p_2 := by omega) (p_3 := by omega) (p_4 := by omega) (p_5 := by omega) (p_6 := by omega) (p_7 := by omega) (p_8 := by omega) (p_9 := (hLK1 _ hqp.2.2.1.2.2))) (fun o V_q hq => ?_)
    obtain ⟨G29, A30, wl2_31, rfl, rfl, hW32, hF33, e34, q35⟩ := hq
    have hF36 := Fr_tr hF0 hF33 (Fr_sub (by decide)) (Fr_sub (by decide))
    have bwl2_31 : (-2147483648 : Int) ≤ wl2_31 ∧ wl2_31 ≤ 2147483647 := e34 ▸ hW32.1 67
    refine .inl ⟨rfl, ?_⟩
    rcases q35 with ⟨a37, a38⟩ | a39
    · have _q : True := trivial
      refine jx_go (tg := 198) rfl rfl ?_
      have _q : True := trivial
      refine jx_rt (v := none) rfl rfl rfl rfl rfl rfl ?_
      exact ⟨_, _, wl2_31, rfl, rfl, hW32, hF36, (e34), by omega, by omega, (SA_su Vd_l (SA_fr2 (show A30 13 = A 13 from (hF33.2 13 rfl)) hSA1)), (fun q => cs_23 hkd a38), trivial⟩
    · have _q : True := trivial
      refine jx_go (tg := 198) rfl rfl ?_
      have _q : True := trivial
      refine jx_rt (v := none) rfl rfl rfl rfl rfl rfl ?_
      exact ⟨_, _, wl2_31, rfl, rfl, hW32, hF36, (e34), by omega, by omega, (SA_su Vd_l (SA_fr2 (show A30 13 = A 13 from (hF33.2 13 rfl)) hSA1)), (fun q => by omega), trivial⟩
  · refine jx_swe (z := 24) (tg := 80) h25 rfl rfl rfl rfl ?_
    have hkd : T0 15 (p).toNat = 24 := (by omega); obtain ⟨g1, g2, g3⟩ := wS_i24 w8 hkd; have hqp := pX_wR g2; have hq1 := hqp.1; have hq2 := hqp.2.1; have hq3 := hqp.2.2.1.1; have hq4 := hqp.2.2.1.2.1; have hln := (p_12 p (by omega) (by omega)).2 (by omega)
    refine jx_ld (pc_q := 81) (l_q := [(0, .ref 66), (1, .int (i32 (p)))]) (st_q := [.ref 66]) rfl (jl_aloadn rfl) ?_
    refine jx_ld (pc_q := 82) (l_q := [(0, .ref 66), (1, .int (i32 (p)))]) (st_q := [.int (i32 (p)), .ref 66]) rfl (jl_iloadn rfl) ?_
    refine jx_ld (pc_q := 83) (l_q := [(0, .ref 66), (1, .int (i32 (p)))]) (st_q := [.ref 66, .int (i32 (p)), .ref 66]) rfl (jl_aloadn rfl) ?_
    refine jr_get (pc_q := 86) (i := 34) (v := .ref 84) rfl rfl (by decide) rfl rfl ?_
    refine jx_ld (pc_q := 87) (l_q := [(0, .ref 66), (1, .int (i32 (p)))]) (st_q := [.ref 66, .ref 84, .int (i32 (p)), .ref 66]) rfl (jl_aloadn rfl) ?_
    refine jr_get (pc_q := 90) (i := 34) (v := .ref 84) rfl rfl (by decide) rfl rfl ?_
    refine jx_ld (pc_q := 91) (l_q := [(0, .ref 66), (1, .int (i32 (p)))]) (st_q := [.int (i32 (p)), .ref 84, .ref 84, .int (i32 (p)), .ref 66]) rfl (jl_iloadn rfl) ?_
    have b40 : (-2147483648 : Int) ≤ T0 17 (p).toNat ∧ T0 17 (p).toNat ≤ 2147483647 := hWT.2 17 _
    refine jr_ldv (pc_q := 92) (i := 17) (m := 7000) (z := p) (y := T0 17 (p).toNat) rfl (by decide) rfl (by decide) (by omega) (by omega) rfl (show A 17 (p).toNat = T0 17 (p).toNat from (congrFun (p_0 17 rfl) _)) ?_
    have b41 : (-2147483648 : Int) ≤ T0 17 (T0 17 (p).toNat).toNat ∧ T0 17 (T0 17 (p).toNat).toNat ≤ 2147483647 := hWT.2 17 _
    refine jr_ldv (pc_q := 93) (i := 17) (m := 7000) (z := T0 17 (p).toNat) (y := T0 17 (T0 17 (p).toNat).toNat) rfl (by decide) rfl (by decide) (by omega) (by omega) rfl (show A 17 (T0 17 (p).toNat).toNat = T0 17 (T0 17 (p).toNat).toNat from (congrFun (p_0 17 rfl) _)) ?_
    refine jx_ar (pc_q := 95) (st_q := [.int (i32 (8)), .int (i32 (T0 17 (T0 17 (p).toNat).toNat)), .int (i32 (p)), .ref 66]) rfl rfl rfl rfl ?_
    have b42 : (-1 : Int) ≤ A 16 (p).toNat ∧ A 16 (p).toNat ≤ 3000 := hW.2 16 _
    refine jx_vr (pc_q := 98) (as := [.int (i32 (p)), .int (i32 (T0 17 (T0 17 (p).toNat).toNat)), .int (i32 (8))]) (st := []) rfl rfl rfl rfl ⟨rfl, rfl, Nat.le_of_ble_eq_true rfl⟩ rfl rfl (c_checkChannel (dd := d) (hd := by omega) (hW := hW) (n := p) (s := T0 17 (T0 17 (p).toNat).toNat) (u := 8) (wl := wl) (e_wl := show G 67 = wl from (e_wl)) (w := wh) (e_w := show G 68 = wh from (e_wh)) (lnn := A 16 (p).toNat) (e_lnn := show A 16 (p).toNat = A 16 (p).toNat from rfl)  (h_n := ⟨(Int.le_trans (by decide : (-2147483648 : Int) ≤ -2147483648) h_p.1), (Int.le_trans h_p.2 (by decide : (2147483647 : Int) ≤ 2147483647))⟩) (h_s := ⟨(Int.le_trans (by decide : (-2147483648 : Int) ≤ -2147483648) b41.1), (Int.le_trans b41.2 (by decide : (2147483647 : Int) ≤ 2147483647))⟩) (h_u := ⟨(by decide), (by decide)⟩)  (p_0 := p_0) (p_1 := by omega) (p_2 := by omega) (p_3 := by omega) (p_4 := by omega) (p_5 := by omega) (p_6 := by omega) (p_7 := by omega) (p_8 := by omega) (p_9 := (hLK1 _ hqp.2.2.1.2.2))) (fun o V_q hq => ?_)
    obtain ⟨G43, A44, wl2_45, rfl, rfl, hW46, hF47, e48, q49⟩ := hq
    have hF50 := Fr_tr hF0 hF47 (Fr_sub (by decide)) (Fr_sub (by decide))
    have bwl2_45 : (-2147483648 : Int) ≤ wl2_45 ∧ wl2_45 ≤ 2147483647 := e48 ▸ hW46.1 67
    refine .inl ⟨rfl, ?_⟩
    rcases q49 with ⟨a51, a52⟩ | a53
    · have _q : True := trivial
      refine jx_go (tg := 198) rfl rfl ?_
      have _q : True := trivial
      refine jx_rt (v := none) rfl rfl rfl rfl rfl rfl ?_
      exact ⟨_, _, wl2_45, rfl, rfl, hW46, hF50, (e48), by omega, by omega, (SA_su Vd_l (SA_fr2 (show A44 13 = A 13 from (hF47.2 13 rfl)) hSA1)), (fun q => cs_24 hkd a52), trivial⟩
    · have _q : True := trivial
      refine jx_go (tg := 198) rfl rfl ?_
      have _q : True := trivial
      refine jx_rt (v := none) rfl rfl rfl rfl rfl rfl ?_
      exact ⟨_, _, wl2_45, rfl, rfl, hW46, hF50, (e48), by omega, by omega, (SA_su Vd_l (SA_fr2 (show A44 13 = A 13 from (hF47.2 13 rfl)) hSA1)), (fun q => by omega), trivial⟩
  · refine jx_swe (z := 25) (tg := 101) h25 rfl rfl rfl rfl ?_
    have hkd : T0 15 (p).toNat = 25 := (by omega); obtain ⟨g1, g2, g3, l0, ch0, g4, g5⟩ := wS_i25 w8 hkd; have hQ0 := LAr_0 ch0 g4 g5 rfl; have hln := (p_12 p (by omega) (by omega)).2 (by omega); have hag := SA_agr hSA1
    refine jx_ld (pc_q := 102) (l_q := [(0, .ref 66), (1, .int (i32 (p)))]) (st_q := [.ref 66]) rfl (jl_aloadn rfl) ?_
    refine jx_ld (pc_q := 103) (l_q := [(0, .ref 66), (1, .int (i32 (p)))]) (st_q := [.int (i32 (p)), .ref 66]) rfl (jl_iloadn rfl) ?_
    have b54 : (-1 : Int) ≤ A 16 (p).toNat ∧ A 16 (p).toNat ≤ 3000 := hW.2 16 _
    refine jx_vr (pc_q := 106) (as := [.int (i32 (p))]) (st := []) rfl rfl rfl rfl ⟨rfl, rfl, Nat.le_of_ble_eq_true rfl⟩ rfl rfl (c_checkCall (dd := d) (hd := by omega) (hW := hW) (n := p) (wl := wl) (e_wl := show G 67 = wl from (e_wl)) (wh := wh) (e_wh := show G 68 = wh from (e_wh)) (lnn := A 16 (p).toNat) (e_lnn := show A 16 (p).toNat = A 16 (p).toNat from rfl)  (h_n := ⟨(Int.le_trans (by decide : (-2147483648 : Int) ≤ -2147483648) h_p.1), (Int.le_trans h_p.2 (by decide : (2147483647 : Int) ≤ 2147483647))⟩)  (p_0 := p_0) (p_1 := by omega) (p_2 := by omega) (p_3 := by omega) (p_4 := by omega) (p_5 := hQ0) (p_6 := p_9) (p_7 := hLK1) (p_8 := by omega) (p_9 := by omega) (p_10 := by omega) (p_11 := by omega)) (fun o V_q hq => ?_)
    obtain ⟨G55, A56, wl2_57, rfl, rfl, hW58, hF59, e60, p61, p62, p63, -⟩ := hq
    have hF65 := Fr_tr hF0 hF59 (Fr_sub (by decide)) (Fr_sub (by decide))
    have bwl2_57 : (-2147483648 : Int) ≤ wl2_57 ∧ wl2_57 ≤ 2147483647 := e60 ▸ hW58.1 67
    refine .inl ⟨rfl, ?_⟩
    refine jx_go (tg := 198) rfl rfl ?_
    have _q : True := trivial
    refine jx_rt (v := none) rfl rfl rfl rfl rfl rfl ?_
    exact ⟨_, _, wl2_57, rfl, rfl, hW58, hF65, (e60), by omega, by omega, (SA_su Vd_l (SA_fr2 (show A56 13 = A 13 from (hF59.2 13 rfl)) hSA1)), (fun q => cs_25 hkd (CK_agr hag ch0 g5 (p63 q))), trivial⟩
  · refine jx_swe (z := 26) (tg := 122) h25 rfl rfl rfl rfl ?_
    obtain ⟨l0, ch0, hQ0, hle, hzr⟩ : ∃ l, CH T0 (T0 21 (p).toNat) l ∧ LQ T0 (rT T0 sb pb k (Vd Vs s0 (s0 + T0 24 (p).toNat))) (fun _ => True) p (T0 21 (p).toNat) (p + 1) hi (s0 + T0 24 (p).toNat) s1 (p + 1) (s0 + T0 24 (p).toNat) ∧ (p + 1 ≤ hi ∧ s0 + T0 24 (p).toNat ≤ s1) ∧ (∀ l, CH T0 (T0 21 (p).toNat) l → ∀ c ∈ l, (T0 15 c.toNat ≠ 33 → T0 15 c.toNat ≠ 34 → vP T0 Bu k Sn (fun s al e _ => Fm s al e) c) ∧ (T0 15 c.toNat = 33 ∨ T0 15 c.toNat = 34 → vP T0 Bu k Sn (fun s al e _ => Fm s al e) (T0 21 c.toNat))) := (by rcases (by omega : T0 15 (p).toNat = 26 ∨ T0 15 (p).toNat = 30 ∨ T0 15 (p).toNat = 32) with hkd | hkd | hkd; (obtain ⟨l, a, b⟩ := wS_i26 w8 hkd; exact ⟨l, a, LQ_r a (Or.inl b), wCs_le b, ZR_p a b (hz.2.2.2.2.1 (Or.inl hkd))⟩); (obtain ⟨l, _, a, b⟩ := wS_i30 w8 hkd; exact ⟨l, a, LQ_r a (Or.inr (Or.inl b)), wCs_le b, ZR_c a (Or.inl b) (fun l hl c hc => (hz.2.2.2.2.2.2.2.2 (Or.inl hkd) l hl c hc).2.2)⟩); (obtain ⟨_, _, l, a, _, b⟩ := wS_i32 w8 hkd; exact ⟨l, a, LQ_r a (Or.inr (Or.inr b)), wCs_le b, ZR_c a (Or.inr b) (fun l hl c hc => (hz.2.2.2.2.2.2.2.2 (Or.inr hkd) l hl c hc).2.2)⟩))
    refine jx_ld (pc_q := 123) (l_q := [(0, .ref 66), (1, .int (i32 (p)))]) (st_q := [.ref 66]) rfl (jl_aloadn rfl) ?_
    refine jx_ld (pc_q := 124) (l_q := [(0, .ref 66), (1, .int (i32 (p)))]) (st_q := [.int (i32 (p)), .ref 66]) rfl (jl_iloadn rfl) ?_
    refine jx_vr (pc_q := 127) (as := [.int (i32 (p))]) (st := []) rfl rfl rfl rfl ⟨rfl, rfl, Nat.le_of_ble_eq_true rfl⟩ rfl rfl (c_checkRow (dd := d) (hC := hC) (hd := by omega) (hW := hW) (n := p) (wl := wl) (e_wl := show G 67 = wl from (e_wl)) (wh := wh) (e_wh := show G 68 = wh from (e_wh))  (h_n := ⟨(Int.le_trans (by decide : (-2147483648 : Int) ≤ -2147483648) h_p.1), (Int.le_trans h_p.2 (by decide : (2147483647 : Int) ≤ 2147483647))⟩)  (p_0 := p_0) (p_1 := by omega) (p_2 := by omega) (p_3 := by omega) (p_4 := by omega) (p_5 := by omega) (p_6 := by omega) (p_7 := hVB1) (p_8 := hSA1) (p_9 := p_9) (p_10 := p_10) (p_11 := hLK1) (p_12 := p_12) (p_13 := by omega) (p_14 := by omega) (p_15 := by omega) (p_16 := by omega) (p_17 := by omega) (p_18 := by omega) (p_19 := hQ0) (p_20 := hzr)) (fun o V_q hq => ?_)
    obtain ⟨G66, A67, wl2_68, rfl, rfl, hW69, hF70, e71, p72, p73, p74, p75, -⟩ := hq
    have hF77 := Fr_tr hF0 hF70 (Fr_sub (by decide)) (Fr_sub (by decide))
    have bwl2_68 : (-2147483648 : Int) ≤ wl2_68 ∧ wl2_68 ≤ 2147483647 := e71 ▸ hW69.1 67
    refine .inl ⟨rfl, ?_⟩
    refine jx_go (tg := 198) rfl rfl ?_
    have _q : True := trivial
    refine jx_rt (v := none) rfl rfl rfl rfl rfl rfl ?_
    exact ⟨_, _, wl2_68, rfl, rfl, hW69, hF77, (e71), by omega, by omega, (SA_su Vd_l p74), (fun q => cs_26 (by omega) (p75 q)), trivial⟩
  · refine jx_swe (z := 27) (tg := 185) h25 rfl rfl rfl rfl ?_
    rcases (by omega : T0 15 (p).toNat = 27 ∨ T0 15 (p).toNat = 31) with hkd | hkd
    · have _q : True := trivial
      obtain ⟨g1, g2, g3, a7, b7, g4, g5, g6, g7, g8, g9⟩ := wS_i27 w8 hkd; have hzc := (hz.2.2.2.2.2.1 hkd).2; have hVBc : VB (Vu (Vd Vs s0 (s0 + T0 24 (p).toNat)) (s0 + T0 24 (p).toNat)) (s0 + T0 24 (p).toNat + 1) := VB_u hVB1 (by omega) (by omega); have hSA2 : SA T0 (Vu (Vd Vs s0 (s0 + T0 24 (p).toNat)) (s0 + T0 24 (p).toNat)) Sn A := SA_u hSA1 (by rw [g3]; decide); have i9 := wP_in g9
      refine jx_ld (pc_q := 186) (l_q := [(0, .ref 66), (1, .int (i32 (p)))]) (st_q := [.ref 66]) rfl (jl_aloadn rfl) ?_
      refine jx_ld (pc_q := 187) (l_q := [(0, .ref 66), (1, .int (i32 (p)))]) (st_q := [.ref 66, .ref 66]) rfl (jl_aloadn rfl) ?_
      refine jr_get (pc_q := 190) (i := 38) (v := .ref 88) rfl rfl (by decide) rfl rfl ?_
      refine jx_ld (pc_q := 191) (l_q := [(0, .ref 66), (1, .int (i32 (p)))]) (st_q := [.int (i32 (p)), .ref 88, .ref 66]) rfl (jl_iloadn rfl) ?_
      have b78 : (-2147483648 : Int) ≤ T0 21 (p).toNat ∧ T0 21 (p).toNat ≤ 2147483647 := hWT.2 21 _
      refine jr_ldv (pc_q := 192) (i := 21) (m := 7000) (z := p) (y := T0 21 (p).toNat) rfl (by decide) rfl (by decide) (by omega) (by omega) rfl (show A 21 (p).toNat = T0 21 (p).toNat from (congrFun (p_0 21 rfl) _)) ?_
      refine jx_vr (pc_q := 195) (as := [.int (i32 (T0 21 (p).toNat))]) (st := []) rfl rfl rfl rfl ⟨rfl, rfl, Nat.le_of_ble_eq_true rfl⟩ rfl rfl (hC (dd := d) (hd := by omega) (hW := hW) (p := T0 21 (p).toNat) (lo := b7) (hi := hi) (s0 := s0 + T0 24 (p).toNat + 1) (s1 := s1) (wl := wl) (e_wl := show G 67 = wl from (e_wl)) (wh := wh) (e_wh := show G 68 = wh from (e_wh))  (h_p := ⟨(Int.le_trans (by decide : (-2147483648 : Int) ≤ -2147483648) b78.1), (Int.le_trans b78.2 (by decide : (2147483647 : Int) ≤ 2147483647))⟩)  (p_0 := p_0) (p_1 := by omega) (p_2 := by omega) (p_3 := by omega) (p_4 := by omega) (p_5 := by omega) (p_6 := by omega) (p_7 := hVBc) (p_8 := hSA2) (p_9 := p_9) (p_10 := p_10) (p_11 := (LKV_u hLK1 (by rw [g3]; decide))) (p_12 := p_12) (p_13 := by omega) (p_14 := by omega) (p_15 := g9) (p_16 := hzc)) (fun o V_q hq => ?_)
      obtain ⟨G79, A80, wl2_81, rfl, rfl, hW82, hF83, e84, p85, p86, p87, p88, -⟩ := hq
      have hF90 := Fr_tr hF0 hF83 (Fr_sub (by decide)) (Fr_sub (by decide))
      have bwl2_81 : (-2147483648 : Int) ≤ wl2_81 ∧ wl2_81 ≤ 2147483647 := e84 ▸ hW82.1 67
      refine .inl ⟨rfl, ?_⟩
      have hSA3 : SA T0 (Vd Vs s0 (s0 + T0 24 (p).toNat)) Sn A80 := SA_su Vu_l p87
      refine jx_go (tg := 198) rfl rfl ?_
      have _q : True := trivial
      refine jx_rt (v := none) rfl rfl rfl rfl rfl rfl ?_
      exact ⟨_, _, wl2_81, rfl, rfl, hW82, hF90, (e84), by omega, by omega, (SA_su Vd_l hSA3), (fun q => cs_27 (Or.inl hkd) (p88 q)), trivial⟩
    · have _q : True := trivial
      obtain ⟨a7, g1, g2, g3, g4⟩ := wS_i31 w8 hkd; have hzc := (hz.2.2.2.2.2.2.2.1 hkd).2; have hVBc := hVB1; have i9 := wP_in g4
      refine jx_ld (pc_q := 186) (l_q := [(0, .ref 66), (1, .int (i32 (p)))]) (st_q := [.ref 66]) rfl (jl_aloadn rfl) ?_
      refine jx_ld (pc_q := 187) (l_q := [(0, .ref 66), (1, .int (i32 (p)))]) (st_q := [.ref 66, .ref 66]) rfl (jl_aloadn rfl) ?_
      refine jr_get (pc_q := 190) (i := 38) (v := .ref 88) rfl rfl (by decide) rfl rfl ?_
      refine jx_ld (pc_q := 191) (l_q := [(0, .ref 66), (1, .int (i32 (p)))]) (st_q := [.int (i32 (p)), .ref 88, .ref 66]) rfl (jl_iloadn rfl) ?_
      have b91 : (-2147483648 : Int) ≤ T0 21 (p).toNat ∧ T0 21 (p).toNat ≤ 2147483647 := hWT.2 21 _
      refine jr_ldv (pc_q := 192) (i := 21) (m := 7000) (z := p) (y := T0 21 (p).toNat) rfl (by decide) rfl (by decide) (by omega) (by omega) rfl (show A 21 (p).toNat = T0 21 (p).toNat from (congrFun (p_0 21 rfl) _)) ?_
      refine jx_vr (pc_q := 195) (as := [.int (i32 (T0 21 (p).toNat))]) (st := []) rfl rfl rfl rfl ⟨rfl, rfl, Nat.le_of_ble_eq_true rfl⟩ rfl rfl (hC (dd := d) (hd := by omega) (hW := hW) (p := T0 21 (p).toNat) (lo := a7) (hi := hi) (s0 := s0 + T0 24 (p).toNat) (s1 := s1) (wl := wl) (e_wl := show G 67 = wl from (e_wl)) (wh := wh) (e_wh := show G 68 = wh from (e_wh))  (h_p := ⟨(Int.le_trans (by decide : (-2147483648 : Int) ≤ -2147483648) b91.1), (Int.le_trans b91.2 (by decide : (2147483647 : Int) ≤ 2147483647))⟩)  (p_0 := p_0) (p_1 := by omega) (p_2 := by omega) (p_3 := by omega) (p_4 := by omega) (p_5 := by omega) (p_6 := by omega) (p_7 := hVBc) (p_8 := hSA1) (p_9 := p_9) (p_10 := p_10) (p_11 := hLK1) (p_12 := p_12) (p_13 := by omega) (p_14 := by omega) (p_15 := g4) (p_16 := hzc)) (fun o V_q hq => ?_)
      obtain ⟨G92, A93, wl2_94, rfl, rfl, hW95, hF96, e97, p98, p99, p100, p101, -⟩ := hq
      have hF103 := Fr_tr hF0 hF96 (Fr_sub (by decide)) (Fr_sub (by decide))
      have bwl2_94 : (-2147483648 : Int) ≤ wl2_94 ∧ wl2_94 ≤ 2147483647 := e97 ▸ hW95.1 67
      refine .inl ⟨rfl, ?_⟩
      have _q : True := trivial
      refine jx_go (tg := 198) rfl rfl ?_
      have _q : True := trivial
      refine jx_rt (v := none) rfl rfl rfl rfl rfl rfl ?_
      exact ⟨_, _, wl2_94, rfl, rfl, hW95, hF103, (e97), by omega, by omega, (SA_su Vd_l p100), (fun q => cs_27 (Or.inr hkd) (p101 q)), trivial⟩
  · refine jx_swe (z := 28) (tg := 109) h25 rfl rfl rfl rfl ?_
    have hkd : T0 15 (p).toNat = 28 := (by omega); have hK := KW_28 hkd w8; obtain ⟨g1, g2, g3, l0, ch0, g4, g5⟩ := wS_i28 w8 hkd; have hQ0 := LQ_r ch0 (Or.inl g5); have hle := wCs_le g5; have hln := (p_12 p (by omega) (by omega)).2 (by omega); have hmk := (p_12 p (by omega) (by omega)).1 (by omega); have hmn : mny T0 p = T0 18 (p).toNat := if_neg (by omega); have hzk := cz_k hK (Or.inl hkd) (fun _ => ⟨l0, ch0, by omega⟩) hz; have hzr := ZR_p ch0 g5 (hz.2.2.2.2.1 (Or.inr hkd))
    refine jx_ld (pc_q := 110) (l_q := [(0, .ref 66), (1, .int (i32 (p)))]) (st_q := [.ref 66]) rfl (jl_aloadn rfl) ?_
    refine jx_ld (pc_q := 111) (l_q := [(0, .ref 66), (1, .int (i32 (p)))]) (st_q := [.int (i32 (p)), .ref 66]) rfl (jl_iloadn rfl) ?_
    have b104 : (-2147483648 : Int) ≤ A 28 (p).toNat ∧ A 28 (p).toNat ≤ 2147483647 := hW.2 28 _
    have b105 : (-1 : Int) ≤ A 16 (p).toNat ∧ A 16 (p).toNat ≤ 3000 := hW.2 16 _
    refine jx_vr (pc_q := 114) (as := [.int (i32 (p))]) (st := []) rfl rfl rfl rfl ⟨rfl, rfl, Nat.le_of_ble_eq_true rfl⟩ rfl rfl (c_checkPar (dd := d) (hd := by omega) (hW := hW) (n := p) (wl := wl) (e_wl := show G 67 = wl from (e_wl)) (mk := A 28 (p).toNat) (e_mk := show A 28 (p).toNat = A 28 (p).toNat from rfl) (lnn := A 16 (p).toNat) (e_lnn := show A 16 (p).toNat = A 16 (p).toNat from rfl)  (h_n := ⟨(Int.le_trans (by decide : (-2147483648 : Int) ≤ -2147483648) h_p.1), (Int.le_trans h_p.2 (by decide : (2147483647 : Int) ≤ 2147483647))⟩)  (p_0 := p_0) (p_1 := by omega) (p_2 := by omega) (p_3 := by omega) (p_4 := by omega) (p_5 := by omega) (p_6 := by omega) (p_7 := hK) (p_8 := hVB1) (p_9 := hSA1) (p_10 := p_9) (p_11 := p_10) (p_12 := hzk) (p_13 := by omega) (p_14 := by omega) (p_15 := by omega) (p_16 := by omega)) (fun o V_q hq => ?_)
    obtain ⟨G106, A107, wl2_108, rfl, rfl, hW109, hF110, e111, q112⟩ := hq
    have hF113 := Fr_tr hF0 hF110 (Fr_sub (by decide)) (Fr_sub (by decide))
    have bwl2_108 : (-2147483648 : Int) ≤ wl2_108 ∧ wl2_108 ≤ 2147483647 := e111 ▸ hW109.1 67
    refine .inl ⟨rfl, ?_⟩
    rcases q112 with ⟨a114, a115, a116⟩ | ⟨a117, a118⟩
    · have _q : True := trivial
      refine jx_ld (pc_q := 115) (l_q := [(0, .ref 66), (1, .int (i32 (p)))]) (st_q := [.ref 66]) rfl (jl_aloadn rfl) ?_
      refine jx_ld (pc_q := 116) (l_q := [(0, .ref 66), (1, .int (i32 (p)))]) (st_q := [.int (i32 (p)), .ref 66]) rfl (jl_iloadn rfl) ?_
      refine jx_vr (pc_q := 119) (as := [.int (i32 (p))]) (st := []) rfl rfl rfl rfl ⟨rfl, rfl, Nat.le_of_ble_eq_true rfl⟩ rfl rfl (c_checkRow (dd := d) (hC := hC) (hd := by omega) (hW := hW109) (n := p) (wl := wl2_108) (e_wl := show G106 67 = wl2_108 from (e111)) (wh := wh) (e_wh := show G106 68 = wh from ((hF110.1 68 rfl).trans (e_wh)))  (h_n := ⟨(Int.le_trans (by decide : (-2147483648 : Int) ≤ -2147483648) h_p.1), (Int.le_trans h_p.2 (by decide : (2147483647 : Int) ≤ 2147483647))⟩)  (p_0 := (TA_fr hF113 (by decide) p_0)) (p_1 := by omega) (p_2 := by omega) (p_3 := by omega) (p_4 := by omega) (p_5 := by omega) (p_6 := by omega) (p_7 := hVB1) (p_8 := a115) (p_9 := (BU_fr (show A107 11 = A 11 from (hF110.2 11 rfl)) p_9)) (p_10 := p_10) (p_11 := hLK1) (p_12 := (MR_fr (show A107 16 = A 16 from (hF110.2 16 rfl)) (show A107 28 = A 28 from (hF110.2 28 rfl)) p_12)) (p_13 := by omega) (p_14 := by omega) (p_15 := by omega) (p_16 := by omega) (p_17 := by omega) (p_18 := by omega) (p_19 := hQ0) (p_20 := hzr)) (fun o V_q hq => ?_)
      obtain ⟨G119, A120, wl2_121, rfl, rfl, hW122, hF123, e124, p125, p126, p127, p128, -⟩ := hq
      have hF130 := Fr_tr hF113 hF123 (Fr_sub (by decide)) (Fr_sub (by decide))
      have bwl2_121 : (-2147483648 : Int) ≤ wl2_121 ∧ wl2_121 ≤ 2147483647 := e124 ▸ hW122.1 67
      refine .inl ⟨rfl, ?_⟩
      refine jx_go (tg := 198) rfl rfl ?_
      have _q : True := trivial
      refine jx_rt (v := none) rfl rfl rfl rfl rfl rfl ?_
      exact ⟨_, _, wl2_121, rfl, rfl, hW122, hF130, (e124), by omega, by omega, (SA_su Vd_l p127), (fun q => cs_28 hkd (p128 q) (PKO_m a116 (by omega))), trivial⟩
    · have _q : True := trivial
      refine jx_ld (pc_q := 115) (l_q := [(0, .ref 66), (1, .int (i32 (p)))]) (st_q := [.ref 66]) rfl (jl_aloadn rfl) ?_
      refine jx_ld (pc_q := 116) (l_q := [(0, .ref 66), (1, .int (i32 (p)))]) (st_q := [.int (i32 (p)), .ref 66]) rfl (jl_iloadn rfl) ?_
      refine jx_vr (pc_q := 119) (as := [.int (i32 (p))]) (st := []) rfl rfl rfl rfl ⟨rfl, rfl, Nat.le_of_ble_eq_true rfl⟩ rfl rfl (c_checkRow (dd := d) (hC := hC) (hd := by omega) (hW := hW109) (n := p) (wl := wl2_108) (e_wl := show G106 67 = wl2_108 from (e111)) (wh := wh) (e_wh := show G106 68 = wh from ((hF110.1 68 rfl).trans (e_wh)))  (h_n := ⟨(Int.le_trans (by decide : (-2147483648 : Int) ≤ -2147483648) h_p.1), (Int.le_trans h_p.2 (by decide : (2147483647 : Int) ≤ 2147483647))⟩)  (p_0 := (TA_fr hF113 (by decide) p_0)) (p_1 := by omega) (p_2 := by omega) (p_3 := by omega) (p_4 := by omega) (p_5 := by omega) (p_6 := by omega) (p_7 := hVB1) (p_8 := a118) (p_9 := (BU_fr (show A107 11 = A 11 from (hF110.2 11 rfl)) p_9)) (p_10 := p_10) (p_11 := hLK1) (p_12 := (MR_fr (show A107 16 = A 16 from (hF110.2 16 rfl)) (show A107 28 = A 28 from (hF110.2 28 rfl)) p_12)) (p_13 := by omega) (p_14 := by omega) (p_15 := by omega) (p_16 := by omega) (p_17 := by omega) (p_18 := by omega) (p_19 := hQ0) (p_20 := hzr)) (fun o V_q hq => ?_)
      obtain ⟨G131, A132, wl2_133, rfl, rfl, hW134, hF135, e136, p137, p138, p139, p140, -⟩ := hq
      have hF142 := Fr_tr hF113 hF135 (Fr_sub (by decide)) (Fr_sub (by decide))
      have bwl2_133 : (-2147483648 : Int) ≤ wl2_133 ∧ wl2_133 ≤ 2147483647 := e136 ▸ hW134.1 67
      refine .inl ⟨rfl, ?_⟩
      refine jx_go (tg := 198) rfl rfl ?_
      have _q : True := trivial
      refine jx_rt (v := none) rfl rfl rfl rfl rfl rfl ?_
      exact ⟨_, _, wl2_133, rfl, rfl, hW134, hF142, (e136), by omega, by omega, (SA_su Vd_l p139), (fun q => by omega), trivial⟩
  · refine jx_swe (z := 29) (tg := 130) h25 rfl rfl rfl rfl ?_
    have hkd : T0 15 (p).toNat = 29 := (by omega); have hK := KW_29 hkd (by omega) w8; obtain ⟨g1, g2, g3, g4, g5, g6, g7, g8⟩ := wS_i29 w8 hkd; have hln := (p_12 p (by omega) (by omega)).2 (by omega); have hmk := (p_12 p (by omega) (by omega)).1 (by omega); have hzk := cz_k hK (Or.inr hkd) (fun q => by omega) hz
    refine jx_ld (pc_q := 131) (l_q := [(0, .ref 66), (1, .int (i32 (p)))]) (st_q := [.ref 66]) rfl (jl_aloadn rfl) ?_
    refine jx_ld (pc_q := 132) (l_q := [(0, .ref 66), (1, .int (i32 (p)))]) (st_q := [.int (i32 (p)), .ref 66]) rfl (jl_iloadn rfl) ?_
    have b143 : (-2147483648 : Int) ≤ A 28 (p).toNat ∧ A 28 (p).toNat ≤ 2147483647 := hW.2 28 _
    have b144 : (-1 : Int) ≤ A 16 (p).toNat ∧ A 16 (p).toNat ≤ 3000 := hW.2 16 _
    refine jx_vr (pc_q := 135) (as := [.int (i32 (p))]) (st := []) rfl rfl rfl rfl ⟨rfl, rfl, Nat.le_of_ble_eq_true rfl⟩ rfl rfl (c_checkPar (dd := d) (hd := by omega) (hW := hW) (n := p) (wl := wl) (e_wl := show G 67 = wl from (e_wl)) (mk := A 28 (p).toNat) (e_mk := show A 28 (p).toNat = A 28 (p).toNat from rfl) (lnn := A 16 (p).toNat) (e_lnn := show A 16 (p).toNat = A 16 (p).toNat from rfl)  (h_n := ⟨(Int.le_trans (by decide : (-2147483648 : Int) ≤ -2147483648) h_p.1), (Int.le_trans h_p.2 (by decide : (2147483647 : Int) ≤ 2147483647))⟩)  (p_0 := p_0) (p_1 := by omega) (p_2 := by omega) (p_3 := by omega) (p_4 := by omega) (p_5 := by omega) (p_6 := by omega) (p_7 := hK) (p_8 := hVB1) (p_9 := hSA1) (p_10 := p_9) (p_11 := p_10) (p_12 := hzk) (p_13 := by omega) (p_14 := by omega) (p_15 := by omega) (p_16 := by omega)) (fun o V_q hq => ?_)
    obtain ⟨G145, A146, wl2_147, rfl, rfl, hW148, hF149, e150, q151⟩ := hq
    have hF152 := Fr_tr hF0 hF149 (Fr_sub (by decide)) (Fr_sub (by decide))
    have bwl2_147 : (-2147483648 : Int) ≤ wl2_147 ∧ wl2_147 ≤ 2147483647 := e150 ▸ hW148.1 67
    refine .inl ⟨rfl, ?_⟩
    rcases q151 with ⟨a153, a154, a155⟩ | ⟨a156, a157⟩
    · have _q : True := trivial
      refine jx_ar (pc_q := 136) (st_q := [.int (i32 (0))]) rfl rfl rfl rfl ?_
      refine jx_ld (pc_q := 137) (l_q := jSto1 [(0, .ref 66), (1, .int (i32 (p)))] 2 (.int (i32 (0)))) (st_q := []) rfl rfl ?_
      obtain ⟨L158, eL158⟩ : ∃ q, q = jSto1 [(0, .ref 66), (1, .int (i32 (p)))] 2 (.int (i32 (0))) := ⟨_, rfl⟩
      rw [← eL158]
      have gL158_0 : jGet L158 0 = some (.ref 66) := eL158 ▸ jg_ne (by decide) (rfl : jGet [(0, .ref 66), (1, .int (i32 (p)))] 0 = some (.ref 66)) rfl
      have gL158_1 : jGet L158 1 = some (.int (i32 (p))) := eL158 ▸ jg_ne (by decide) (rfl : jGet [(0, .ref 66), (1, .int (i32 (p)))] 1 = some (.int (i32 (p)))) rfl
      have gL158_2 : jGet L158 2 = some (.int (i32 (0))) := eL158 ▸ jg_eq
      exact c_check_s_at_137 (X := X) (k := k) (hC := hC) (d := d) (T0 := T0) (Sn := Sn) (Bu := Bu) (Vs := Vs) (sb := sb) (pb := pb) (nd := nd) (Fm := Fm) (c0 := c0) (c1 := c1) (G := G) (A := A) (T := T) (p := p) (lo := lo) (hi := hi) (s0 := s0) (s1 := s1) (wl := wl) (wh := wh) (hd := hd) (hW := hW) (e_wl := e_wl) (e_wh := e_wh) (h_p := h_p) (p_0 := p_0) (p_1 := p_1) (p_2 := p_2) (p_3 := p_3) (p_4 := p_4) (p_5 := p_5) (p_6 := p_6) (p_7 := p_7) (p_8 := p_8) (p_9 := p_9) (p_10 := p_10) (p_11 := p_11) (p_12 := p_12) (p_13 := p_13) (p_14 := p_14) (p_15 := p_15) (p_16 := p_16) _ L158 G145 A146 (0) (wl2_147) rfl gL158_0 gL158_1 gL158_2 hW148 hF152 ((e150)) (by omega) (by omega) (by omega) (a154) (by omega) (by omega) (by omega) (by omega) ((fun q => PKO_m a155 (by omega))) ((fun _ j hj => absurd hj (by omega)))
    · have _q : True := trivial
      refine jx_ar (pc_q := 136) (st_q := [.int (i32 (0))]) rfl rfl rfl rfl ?_
      refine jx_ld (pc_q := 137) (l_q := jSto1 [(0, .ref 66), (1, .int (i32 (p)))] 2 (.int (i32 (0)))) (st_q := []) rfl rfl ?_
      obtain ⟨L159, eL159⟩ : ∃ q, q = jSto1 [(0, .ref 66), (1, .int (i32 (p)))] 2 (.int (i32 (0))) := ⟨_, rfl⟩
      rw [← eL159]
      have gL159_0 : jGet L159 0 = some (.ref 66) := eL159 ▸ jg_ne (by decide) (rfl : jGet [(0, .ref 66), (1, .int (i32 (p)))] 0 = some (.ref 66)) rfl
      have gL159_1 : jGet L159 1 = some (.int (i32 (p))) := eL159 ▸ jg_ne (by decide) (rfl : jGet [(0, .ref 66), (1, .int (i32 (p)))] 1 = some (.int (i32 (p)))) rfl
      have gL159_2 : jGet L159 2 = some (.int (i32 (0))) := eL159 ▸ jg_eq
      exact c_check_s_at_137 (X := X) (k := k) (hC := hC) (d := d) (T0 := T0) (Sn := Sn) (Bu := Bu) (Vs := Vs) (sb := sb) (pb := pb) (nd := nd) (Fm := Fm) (c0 := c0) (c1 := c1) (G := G) (A := A) (T := T) (p := p) (lo := lo) (hi := hi) (s0 := s0) (s1 := s1) (wl := wl) (wh := wh) (hd := hd) (hW := hW) (e_wl := e_wl) (e_wh := e_wh) (h_p := h_p) (p_0 := p_0) (p_1 := p_1) (p_2 := p_2) (p_3 := p_3) (p_4 := p_4) (p_5 := p_5) (p_6 := p_6) (p_7 := p_7) (p_8 := p_8) (p_9 := p_9) (p_10 := p_10) (p_11 := p_11) (p_12 := p_12) (p_13 := p_13) (p_14 := p_14) (p_15 := p_15) (p_16 := p_16) _ L159 G145 A146 (0) (wl2_147) rfl gL159_0 gL159_1 gL159_2 hW148 hF152 ((e150)) (by omega) (by omega) (by omega) (a157) (by omega) (by omega) (by omega) (by omega) ((fun q => by omega)) ((fun _ j hj => absurd hj (by omega)))
  · refine jx_swe (z := 30) (tg := 122) h25 rfl rfl rfl rfl ?_
    obtain ⟨l0, ch0, hQ0, hle, hzr⟩ : ∃ l, CH T0 (T0 21 (p).toNat) l ∧ LQ T0 (rT T0 sb pb k (Vd Vs s0 (s0 + T0 24 (p).toNat))) (fun _ => True) p (T0 21 (p).toNat) (p + 1) hi (s0 + T0 24 (p).toNat) s1 (p + 1) (s0 + T0 24 (p).toNat) ∧ (p + 1 ≤ hi ∧ s0 + T0 24 (p).toNat ≤ s1) ∧ (∀ l, CH T0 (T0 21 (p).toNat) l → ∀ c ∈ l, (T0 15 c.toNat ≠ 33 → T0 15 c.toNat ≠ 34 → vP T0 Bu k Sn (fun s al e _ => Fm s al e) c) ∧ (T0 15 c.toNat = 33 ∨ T0 15 c.toNat = 34 → vP T0 Bu k Sn (fun s al e _ => Fm s al e) (T0 21 c.toNat))) := (by rcases (by omega : T0 15 (p).toNat = 26 ∨ T0 15 (p).toNat = 30 ∨ T0 15 (p).toNat = 32) with hkd | hkd | hkd; (obtain ⟨l, a, b⟩ := wS_i26 w8 hkd; exact ⟨l, a, LQ_r a (Or.inl b), wCs_le b, ZR_p a b (hz.2.2.2.2.1 (Or.inl hkd))⟩); (obtain ⟨l, _, a, b⟩ := wS_i30 w8 hkd; exact ⟨l, a, LQ_r a (Or.inr (Or.inl b)), wCs_le b, ZR_c a (Or.inl b) (fun l hl c hc => (hz.2.2.2.2.2.2.2.2 (Or.inl hkd) l hl c hc).2.2)⟩); (obtain ⟨_, _, l, a, _, b⟩ := wS_i32 w8 hkd; exact ⟨l, a, LQ_r a (Or.inr (Or.inr b)), wCs_le b, ZR_c a (Or.inr b) (fun l hl c hc => (hz.2.2.2.2.2.2.2.2 (Or.inr hkd) l hl c hc).2.2)⟩))
    refine jx_ld (pc_q := 123) (l_q := [(0, .ref 66), (1, .int (i32 (p)))]) (st_q := [.ref 66]) rfl (jl_aloadn rfl) ?_
    refine jx_ld (pc_q := 124) (l_q := [(0, .ref 66), (1, .int (i32 (p)))]) (st_q := [.int (i32 (p)), .ref 66]) rfl (jl_iloadn rfl) ?_
    refine jx_vr (pc_q := 127) (as := [.int (i32 (p))]) (st := []) rfl rfl rfl rfl ⟨rfl, rfl, Nat.le_of_ble_eq_true rfl⟩ rfl rfl (c_checkRow (dd := d) (hC := hC) (hd := by omega) (hW := hW) (n := p) (wl := wl) (e_wl := show G 67 = wl from (e_wl)) (wh := wh) (e_wh := show G 68 = wh from (e_wh))  (h_n := ⟨(Int.le_trans (by decide : (-2147483648 : Int) ≤ -2147483648) h_p.1), (Int.le_trans h_p.2 (by decide : (2147483647 : Int) ≤ 2147483647))⟩)  (p_0 := p_0) (p_1 := by omega) (p_2 := by omega) (p_3 := by omega) (p_4 := by omega) (p_5 := by omega) (p_6 := by omega) (p_7 := hVB1) (p_8 := hSA1) (p_9 := p_9) (p_10 := p_10) (p_11 := hLK1) (p_12 := p_12) (p_13 := by omega) (p_14 := by omega) (p_15 := by omega) (p_16 := by omega) (p_17 := by omega) (p_18 := by omega) (p_19 := hQ0) (p_20 := hzr)) (fun o V_q hq => ?_)
    obtain ⟨G160, A161, wl2_162, rfl, rfl, hW163, hF164, e165, p166, p167, p168, p169, -⟩ := hq
    have hF171 := Fr_tr hF0 hF164 (Fr_sub (by decide)) (Fr_sub (by decide))
    have bwl2_162 : (-2147483648 : Int) ≤ wl2_162 ∧ wl2_162 ≤ 2147483647 := e165 ▸ hW163.1 67
    refine .inl ⟨rfl, ?_⟩
    refine jx_go (tg := 198) rfl rfl ?_
    have _q : True := trivial
    refine jx_rt (v := none) rfl rfl rfl rfl rfl rfl ?_
    exact ⟨_, _, wl2_162, rfl, rfl, hW163, hF171, (e165), by omega, by omega, (SA_su Vd_l p168), (fun q => cs_26 (by omega) (p169 q)), trivial⟩
  · refine jx_swe (z := 31) (tg := 185) h25 rfl rfl rfl rfl ?_
    rcases (by omega : T0 15 (p).toNat = 27 ∨ T0 15 (p).toNat = 31) with hkd | hkd
    · have _q : True := trivial
      obtain ⟨g1, g2, g3, a7, b7, g4, g5, g6, g7, g8, g9⟩ := wS_i27 w8 hkd; have hzc := (hz.2.2.2.2.2.1 hkd).2; have hVBc : VB (Vu (Vd Vs s0 (s0 + T0 24 (p).toNat)) (s0 + T0 24 (p).toNat)) (s0 + T0 24 (p).toNat + 1) := VB_u hVB1 (by omega) (by omega); have hSA2 : SA T0 (Vu (Vd Vs s0 (s0 + T0 24 (p).toNat)) (s0 + T0 24 (p).toNat)) Sn A := SA_u hSA1 (by rw [g3]; decide); have i9 := wP_in g9
      refine jx_ld (pc_q := 186) (l_q := [(0, .ref 66), (1, .int (i32 (p)))]) (st_q := [.ref 66]) rfl (jl_aloadn rfl) ?_
      refine jx_ld (pc_q := 187) (l_q := [(0, .ref 66), (1, .int (i32 (p)))]) (st_q := [.ref 66, .ref 66]) rfl (jl_aloadn rfl) ?_
      refine jr_get (pc_q := 190) (i := 38) (v := .ref 88) rfl rfl (by decide) rfl rfl ?_
      refine jx_ld (pc_q := 191) (l_q := [(0, .ref 66), (1, .int (i32 (p)))]) (st_q := [.int (i32 (p)), .ref 88, .ref 66]) rfl (jl_iloadn rfl) ?_
      have b172 : (-2147483648 : Int) ≤ T0 21 (p).toNat ∧ T0 21 (p).toNat ≤ 2147483647 := hWT.2 21 _
      refine jr_ldv (pc_q := 192) (i := 21) (m := 7000) (z := p) (y := T0 21 (p).toNat) rfl (by decide) rfl (by decide) (by omega) (by omega) rfl (show A 21 (p).toNat = T0 21 (p).toNat from (congrFun (p_0 21 rfl) _)) ?_
      refine jx_vr (pc_q := 195) (as := [.int (i32 (T0 21 (p).toNat))]) (st := []) rfl rfl rfl rfl ⟨rfl, rfl, Nat.le_of_ble_eq_true rfl⟩ rfl rfl (hC (dd := d) (hd := by omega) (hW := hW) (p := T0 21 (p).toNat) (lo := b7) (hi := hi) (s0 := s0 + T0 24 (p).toNat + 1) (s1 := s1) (wl := wl) (e_wl := show G 67 = wl from (e_wl)) (wh := wh) (e_wh := show G 68 = wh from (e_wh))  (h_p := ⟨(Int.le_trans (by decide : (-2147483648 : Int) ≤ -2147483648) b172.1), (Int.le_trans b172.2 (by decide : (2147483647 : Int) ≤ 2147483647))⟩)  (p_0 := p_0) (p_1 := by omega) (p_2 := by omega) (p_3 := by omega) (p_4 := by omega) (p_5 := by omega) (p_6 := by omega) (p_7 := hVBc) (p_8 := hSA2) (p_9 := p_9) (p_10 := p_10) (p_11 := (LKV_u hLK1 (by rw [g3]; decide))) (p_12 := p_12) (p_13 := by omega) (p_14 := by omega) (p_15 := g9) (p_16 := hzc)) (fun o V_q hq => ?_)
      obtain ⟨G173, A174, wl2_175, rfl, rfl, hW176, hF177, e178, p179, p180, p181, p182, -⟩ := hq
      have hF184 := Fr_tr hF0 hF177 (Fr_sub (by decide)) (Fr_sub (by decide))
      have bwl2_175 : (-2147483648 : Int) ≤ wl2_175 ∧ wl2_175 ≤ 2147483647 := e178 ▸ hW176.1 67
      refine .inl ⟨rfl, ?_⟩
      have hSA3 : SA T0 (Vd Vs s0 (s0 + T0 24 (p).toNat)) Sn A174 := SA_su Vu_l p181
      refine jx_go (tg := 198) rfl rfl ?_
      have _q : True := trivial
      refine jx_rt (v := none) rfl rfl rfl rfl rfl rfl ?_
      exact ⟨_, _, wl2_175, rfl, rfl, hW176, hF184, (e178), by omega, by omega, (SA_su Vd_l hSA3), (fun q => cs_27 (Or.inl hkd) (p182 q)), trivial⟩
    · have _q : True := trivial
      obtain ⟨a7, g1, g2, g3, g4⟩ := wS_i31 w8 hkd; have hzc := (hz.2.2.2.2.2.2.2.1 hkd).2; have hVBc := hVB1; have i9 := wP_in g4
      refine jx_ld (pc_q := 186) (l_q := [(0, .ref 66), (1, .int (i32 (p)))]) (st_q := [.ref 66]) rfl (jl_aloadn rfl) ?_
      refine jx_ld (pc_q := 187) (l_q := [(0, .ref 66), (1, .int (i32 (p)))]) (st_q := [.ref 66, .ref 66]) rfl (jl_aloadn rfl) ?_
      refine jr_get (pc_q := 190) (i := 38) (v := .ref 88) rfl rfl (by decide) rfl rfl ?_
      refine jx_ld (pc_q := 191) (l_q := [(0, .ref 66), (1, .int (i32 (p)))]) (st_q := [.int (i32 (p)), .ref 88, .ref 66]) rfl (jl_iloadn rfl) ?_
      have b185 : (-2147483648 : Int) ≤ T0 21 (p).toNat ∧ T0 21 (p).toNat ≤ 2147483647 := hWT.2 21 _
      refine jr_ldv (pc_q := 192) (i := 21) (m := 7000) (z := p) (y := T0 21 (p).toNat) rfl (by decide) rfl (by decide) (by omega) (by omega) rfl (show A 21 (p).toNat = T0 21 (p).toNat from (congrFun (p_0 21 rfl) _)) ?_
      refine jx_vr (pc_q := 195) (as := [.int (i32 (T0 21 (p).toNat))]) (st := []) rfl rfl rfl rfl ⟨rfl, rfl, Nat.le_of_ble_eq_true rfl⟩ rfl rfl (hC (dd := d) (hd := by omega) (hW := hW) (p := T0 21 (p).toNat) (lo := a7) (hi := hi) (s0 := s0 + T0 24 (p).toNat) (s1 := s1) (wl := wl) (e_wl := show G 67 = wl from (e_wl)) (wh := wh) (e_wh := show G 68 = wh from (e_wh))  (h_p := ⟨(Int.le_trans (by decide : (-2147483648 : Int) ≤ -2147483648) b185.1), (Int.le_trans b185.2 (by decide : (2147483647 : Int) ≤ 2147483647))⟩)  (p_0 := p_0) (p_1 := by omega) (p_2 := by omega) (p_3 := by omega) (p_4 := by omega) (p_5 := by omega) (p_6 := by omega) (p_7 := hVBc) (p_8 := hSA1) (p_9 := p_9) (p_10 := p_10) (p_11 := hLK1) (p_12 := p_12) (p_13 := by omega) (p_14 := by omega) (p_15 := g4) (p_16 := hzc)) (fun o V_q hq => ?_)
      obtain ⟨G186, A187, wl2_188, rfl, rfl, hW189, hF190, e191, p192, p193, p194, p195, -⟩ := hq
      have hF197 := Fr_tr hF0 hF190 (Fr_sub (by decide)) (Fr_sub (by decide))
      have bwl2_188 : (-2147483648 : Int) ≤ wl2_188 ∧ wl2_188 ≤ 2147483647 := e191 ▸ hW189.1 67
      refine .inl ⟨rfl, ?_⟩
      have _q : True := trivial
      refine jx_go (tg := 198) rfl rfl ?_
      have _q : True := trivial
      refine jx_rt (v := none) rfl rfl rfl rfl rfl rfl ?_
      exact ⟨_, _, wl2_188, rfl, rfl, hW189, hF197, (e191), by omega, by omega, (SA_su Vd_l p194), (fun q => cs_27 (Or.inr hkd) (p195 q)), trivial⟩
  · refine jx_swe (z := 32) (tg := 122) h25 rfl rfl rfl rfl ?_
    obtain ⟨l0, ch0, hQ0, hle, hzr⟩ : ∃ l, CH T0 (T0 21 (p).toNat) l ∧ LQ T0 (rT T0 sb pb k (Vd Vs s0 (s0 + T0 24 (p).toNat))) (fun _ => True) p (T0 21 (p).toNat) (p + 1) hi (s0 + T0 24 (p).toNat) s1 (p + 1) (s0 + T0 24 (p).toNat) ∧ (p + 1 ≤ hi ∧ s0 + T0 24 (p).toNat ≤ s1) ∧ (∀ l, CH T0 (T0 21 (p).toNat) l → ∀ c ∈ l, (T0 15 c.toNat ≠ 33 → T0 15 c.toNat ≠ 34 → vP T0 Bu k Sn (fun s al e _ => Fm s al e) c) ∧ (T0 15 c.toNat = 33 ∨ T0 15 c.toNat = 34 → vP T0 Bu k Sn (fun s al e _ => Fm s al e) (T0 21 c.toNat))) := (by rcases (by omega : T0 15 (p).toNat = 26 ∨ T0 15 (p).toNat = 30 ∨ T0 15 (p).toNat = 32) with hkd | hkd | hkd; (obtain ⟨l, a, b⟩ := wS_i26 w8 hkd; exact ⟨l, a, LQ_r a (Or.inl b), wCs_le b, ZR_p a b (hz.2.2.2.2.1 (Or.inl hkd))⟩); (obtain ⟨l, _, a, b⟩ := wS_i30 w8 hkd; exact ⟨l, a, LQ_r a (Or.inr (Or.inl b)), wCs_le b, ZR_c a (Or.inl b) (fun l hl c hc => (hz.2.2.2.2.2.2.2.2 (Or.inl hkd) l hl c hc).2.2)⟩); (obtain ⟨_, _, l, a, _, b⟩ := wS_i32 w8 hkd; exact ⟨l, a, LQ_r a (Or.inr (Or.inr b)), wCs_le b, ZR_c a (Or.inr b) (fun l hl c hc => (hz.2.2.2.2.2.2.2.2 (Or.inr hkd) l hl c hc).2.2)⟩))
    refine jx_ld (pc_q := 123) (l_q := [(0, .ref 66), (1, .int (i32 (p)))]) (st_q := [.ref 66]) rfl (jl_aloadn rfl) ?_
    refine jx_ld (pc_q := 124) (l_q := [(0, .ref 66), (1, .int (i32 (p)))]) (st_q := [.int (i32 (p)), .ref 66]) rfl (jl_iloadn rfl) ?_
    refine jx_vr (pc_q := 127) (as := [.int (i32 (p))]) (st := []) rfl rfl rfl rfl ⟨rfl, rfl, Nat.le_of_ble_eq_true rfl⟩ rfl rfl (c_checkRow (dd := d) (hC := hC) (hd := by omega) (hW := hW) (n := p) (wl := wl) (e_wl := show G 67 = wl from (e_wl)) (wh := wh) (e_wh := show G 68 = wh from (e_wh))  (h_n := ⟨(Int.le_trans (by decide : (-2147483648 : Int) ≤ -2147483648) h_p.1), (Int.le_trans h_p.2 (by decide : (2147483647 : Int) ≤ 2147483647))⟩)  (p_0 := p_0) (p_1 := by omega) (p_2 := by omega) (p_3 := by omega) (p_4 := by omega) (p_5 := by omega) (p_6 := by omega) (p_7 := hVB1) (p_8 := hSA1) (p_9 := p_9) (p_10 := p_10) (p_11 := hLK1) (p_12 := p_12) (p_13 := by omega) (p_14 := by omega) (p_15 := by omega) (p_16 := by omega) (p_17 := by omega) (p_18 := by omega) (p_19 := hQ0) (p_20 := hzr)) (fun o V_q hq => ?_)
    obtain ⟨G198, A199, wl2_200, rfl, rfl, hW201, hF202, e203, p204, p205, p206, p207, -⟩ := hq
    have hF209 := Fr_tr hF0 hF202 (Fr_sub (by decide)) (Fr_sub (by decide))
    have bwl2_200 : (-2147483648 : Int) ≤ wl2_200 ∧ wl2_200 ≤ 2147483647 := e203 ▸ hW201.1 67
    refine .inl ⟨rfl, ?_⟩
    refine jx_go (tg := 198) rfl rfl ?_
    have _q : True := trivial
    refine jx_rt (v := none) rfl rfl rfl rfl rfl rfl ?_
    exact ⟨_, _, wl2_200, rfl, rfl, hW201, hF209, (e203), by omega, by omega, (SA_su Vd_l p206), (fun q => cs_26 (by omega) (p207 q)), trivial⟩
  · refine jx_swt (tg := 198) (by omega) (by omega) rfl h25 rfl ?_
    have _q : True := trivial
    refine jx_rt (v := none) rfl rfl rfl rfl rfl rfl ?_
    exact ⟨_, _, wl, rfl, rfl, hW, hF0, (e_wl), by omega, by omega, (SA_su Vd_l hSA1), (fun _ => cs_no (by omega)), trivial⟩
theorem c_check_0 {X : jX} {dd : Nat} {T0 : Nat → Nat → Int} {Sn Bu : Int → Int} {Vs : Nat → Prop} {sb pb nd : Int} {Fm : Int → Int → Int → Prop} {c0 c1 : jC} {G : Nat → Int} {A : Nat → Nat → Int} {T : jH} {p : Int} {lo hi s0 s1 : Int} {wl wh : Int} (hd : 3 * 0 + 80 ≤ dd) (hW : Wk G A) (e_wl : G 67 = wl) (e_wh : G 68 = wh) (h_p : (-2147483648 : Int) ≤ p ∧ p ≤ 2147483647) (p_0 : TA T0 A) (p_1 : 1 ≤ lo) (p_2 : hi ≤ nd) (p_3 : nd ≤ 6999) (p_4 : sb ≤ 202) (p_5 : 0 ≤ s0) (p_6 : s1 ≤ sb) (p_7 : VB (Vs) (s0)) (p_8 : SA T0 Vs Sn A) (p_9 : BUr T0 Bu pb A) (p_10 : Fbd Fm 7324) (p_11 : LKV T0 Vs) (p_12 : MRx T0 A nd) (p_13 : -1 ≤ wl ∧ wl ≤ 3000) (p_14 : ((0 : Nat) : Int) ≤ 18) (p_15 : wP T0 sb pb (0) (Vs) (p) (lo) (hi) (s0) (s1)) (p_16 : vP T0 Bu (0) Sn (fun s al e _ => Fm s al e) (p)) : wk X dd 339 [.ref 66, .int (i32 p)] (rV c0 c1 G A T) (fun o V_q => ∃ (G_q : Nat → Int) (A_q : Nat → Nat → Int) (wl2 : Int), V_q = rV c0 c1 G_q A_q T ∧ o = .inl none ∧ Wk G_q A_q ∧ Fr [61, 62, 67] [13, 39, 40, 41, 42, 43] G A G_q A_q ∧ G_q 67 = wl2 ∧ (-1 ≤ wl2 ∧ wl2 ≤ 3000) ∧ (wl = -1 ∨ 0 ≤ wl2) ∧ (SA T0 Vs Sn A_q) ∧ ((wl2) = -1 → ckP T0 Bu wh (0) Sn (p)) ∧ True) := by
  exact False.elim p_15
theorem CK_all (X : jX) : ∀ k, CK X k
  | 0 => @c_check_0 X
  | k + 1 => @c_check_s X k (CK_all X k)
