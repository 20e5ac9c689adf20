/-- its word tells that a channel is there; ready, if it waits for that -/
def wkR (A A_q : Nat → Nat → Int) (p d : Int) : Prop := (ldM A p (d / 2 - 3) ≠ 2 ∧ A_q = stM A p (d / 2 - 3) 3) ∨ (ldM A p (d / 2 - 3) = 2 ∧ mkR (stM A p (d / 2 - 3) 3) A_q p d)

set_option maxRecDepth 20000 in
set_option maxHeartbeats 4000000 in
theorem c_wake {X : jX} {dd : Nat} {c0 c1 : jC} {G : Nat → Int} {A : Nat → Nat → Int} {T : jH} {p d2 : Int} {m0 m1 : Int} (hd : 5 ≤ dd) (hW : Wk G A) (e_m0 : A 72 ((2 * p)).toNat = m0) (e_m1 : A 72 (((2 * p) + 1)).toNat = m1) (h_p : (-2147483648 : Int) ≤ p ∧ p ≤ 2147483647) (h_d2 : (-2147483648 : Int) ≤ d2 ∧ d2 ≤ 2147483647) (p_0 : 0 ≤ p) (p_1 : p ≤ 5) (p_2 : 0 ≤ m0) (p_3 : m0 ≤ 1099) (p_4 : 0 ≤ m1) (p_5 : m1 ≤ 1099) : wk X dd 390 [.ref 66, .int (i32 p), .int (i32 d2)] (rV c0 c1 G A T) (fun o V_q => ∃ (G_q : Nat → Int) (A_q : Nat → Nat → Int), V_q = rV c0 c1 G_q A_q T ∧ o = .inl none ∧ Wk G_q A_q ∧ Fr [] [59, 60, 61, 62, 63, 64, 65, 66, 70, 71, 72, 73] G A G_q A_q ∧ (wkR A A_q (p) (d2)) ∧ True) := by
  obtain ⟨d, rfl⟩ : ∃ d, dd = d + 1 := ⟨dd - 1, by omega⟩
  refine wk_of (e := jm390) rfl (Nat.le_of_ble_eq_true rfl) ?_
  show wj X d jm390 (0, [(0, .ref 66), (1, .int (i32 (p))), (2, .int (i32 (d2)))], [], rV c0 c1 G A T) _
  have hF0 : Fr [] [59, 60, 61, 62, 63, 64, 65, 66, 70, 71, 72, 73] G A G A := Fr_rf
  have b_m0 : (-2147483648 : Int) ≤ m0 ∧ m0 ≤ 2147483647 := e_m0 ▸ hW.2 72 _
  have b_m1 : (-2147483648 : Int) ≤ m1 ∧ m1 ≤ 2147483647 := e_m1 ▸ hW.2 72 _
  refine jx_ld (pc_q := 1) (l_q := [(0, .ref 66), (1, .int (i32 (p))), (2, .int (i32 (d2)))]) (st_q := [.int (i32 (d2))]) rfl (jl_iloadn rfl) ?_
  refine jx_ar (pc_q := 2) (st_q := [.int (i32 (1)), .int (i32 (d2))]) rfl rfl rfl rfl ?_
  refine jx_shr (pc_q := 3) rfl rfl ?_
  obtain ⟨b1, eb1⟩ : ∃ z, z = (i32 (d2) >>> (i32 (1) &&& 31)).toInt := ⟨_, rfl⟩
  rw [← eb1]
  have rb1 : (-2147483648 : Int) ≤ b1 ∧ b1 ≤ 2147483647 := eb1 ▸ i32_rg _
  have hb1 := (show b1 = (i32 d2 >>> (i32 1 &&& 31)).toInt from eb1).trans (shr_1 (by omega) (by omega))
  refine jx_ld (pc_q := 4) (l_q := jSto1 [(0, .ref 66), (1, .int (i32 (p))), (2, .int (i32 (d2)))] 3 (.int (i32 (b1)))) (st_q := []) rfl rfl ?_
  obtain ⟨L2, eL2⟩ : ∃ q, q = jSto1 [(0, .ref 66), (1, .int (i32 (p))), (2, .int (i32 (d2)))] 3 (.int (i32 (b1))) := ⟨_, rfl⟩
  rw [← eL2]
  have gL2_0 : jGet L2 0 = some (.ref 66) := eL2 ▸ jg_ne (by decide) (rfl : jGet [(0, .ref 66), (1, .int (i32 (p))), (2, .int (i32 (d2)))] 0 = some (.ref 66)) rfl
  have gL2_1 : jGet L2 1 = some (.int (i32 (p))) := eL2 ▸ jg_ne (by decide) (rfl : jGet [(0, .ref 66), (1, .int (i32 (p))), (2, .int (i32 (d2)))] 1 = some (.int (i32 (p)))) rfl
  have gL2_2 : jGet L2 2 = some (.int (i32 (d2))) := eL2 ▸ jg_ne (by decide) (rfl : jGet [(0, .ref 66), (1, .int (i32 (p))), (2, .int (i32 (d2)))] 2 = some (.int (i32 (d2)))) rfl
  have gL2_3 : jGet L2 3 = some (.int (i32 (b1))) := eL2 ▸ jg_eq
  refine jx_ld (pc_q := 5) (l_q := L2) (st_q := [.ref 66]) rfl (jl_aloadn gL2_0) ?_
  refine jx_ld (pc_q := 6) (l_q := L2) (st_q := [.int (i32 (p)), .ref 66]) rfl (jl_iloadn gL2_1) ?_
  refine jx_ld (pc_q := 7) (l_q := L2) (st_q := [.int (i32 (b1)), .int (i32 (p)), .ref 66]) rfl (jl_iloadn gL2_3) ?_
  refine jx_ar (pc_q := 8) (st_q := [.int (i32 (3)), .int (i32 (b1)), .int (i32 (p)), .ref 66]) rfl rfl rfl rfl ?_
  refine jx_sub (pc_q := 9) rfl rfl ?_
  refine jx_vr (pc_q := 12) (as := [.int (i32 (p)), .int (i32 ((b1 - 3)))]) (st := []) rfl rfl rfl rfl ⟨rfl, rfl, Nat.le_of_ble_eq_true rfl⟩ rfl rfl (c_load (dd := d) (hd := by omega) (hW := hW) (p := p) (a := (b1 - 3))   (h_p := ⟨(Int.le_trans (by decide : (-2147483648 : Int) ≤ -2147483648) h_p.1), (Int.le_trans h_p.2 (by decide : (2147483647 : Int) ≤ 2147483647))⟩) (h_a := ⟨(by omega), (by omega)⟩)  (p_0 := by omega) (p_1 := by omega)) (fun o V_q hq => ?_)
  obtain ⟨r3, rfl, rfl, b4, p5, -⟩ := hq
  refine .inr ⟨_, rfl, ?_⟩
  refine jx_ld (pc_q := 14) (l_q := jSto1 L2 4 (.int (i32 (r3)))) (st_q := []) rfl rfl ?_
  obtain ⟨L7, eL7⟩ : ∃ q, q = jSto1 L2 4 (.int (i32 (r3))) := ⟨_, rfl⟩
  rw [← eL7]
  have gL7_0 : jGet L7 0 = some (.ref 66) := eL7 ▸ jg_ne (by decide) gL2_0 rfl
  have gL7_1 : jGet L7 1 = some (.int (i32 (p))) := eL7 ▸ jg_ne (by decide) gL2_1 rfl
  have gL7_2 : jGet L7 2 = some (.int (i32 (d2))) := eL7 ▸ jg_ne (by decide) gL2_2 rfl
  have gL7_3 : jGet L7 3 = some (.int (i32 (b1))) := eL7 ▸ jg_ne (by decide) gL2_3 rfl
  have gL7_4 : jGet L7 4 = some (.int (i32 (r3))) := eL7 ▸ jg_eq
  refine jx_ld (pc_q := 15) (l_q := L7) (st_q := [.ref 66]) rfl (jl_aloadn gL7_0) ?_
  refine jx_ld (pc_q := 16) (l_q := L7) (st_q := [.int (i32 (p)), .ref 66]) rfl (jl_iloadn gL7_1) ?_
  refine jx_ld (pc_q := 17) (l_q := L7) (st_q := [.int (i32 (b1)), .int (i32 (p)), .ref 66]) rfl (jl_iloadn gL7_3) ?_
  refine jx_ar (pc_q := 18) (st_q := [.int (i32 (3)), .int (i32 (b1)), .int (i32 (p)), .ref 66]) rfl rfl rfl rfl ?_
  refine jx_sub (pc_q := 19) rfl rfl ?_
  refine jx_ar (pc_q := 20) (st_q := [.int (i32 (3)), .int (i32 ((b1 - 3))), .int (i32 (p)), .ref 66]) rfl rfl rfl rfl ?_
  refine jx_vr (pc_q := 23) (as := [.int (i32 (p)), .int (i32 ((b1 - 3))), .int (i32 (3))]) (st := []) rfl rfl rfl rfl ⟨rfl, rfl, Nat.le_of_ble_eq_true rfl⟩ rfl rfl (c_store (dd := d) (hd := by omega) (hW := hW) (p := p) (a := (b1 - 3)) (v := 3)   (h_p := ⟨(Int.le_trans (by decide : (-2147483648 : Int) ≤ -2147483648) h_p.1), (Int.le_trans h_p.2 (by decide : (2147483647 : Int) ≤ 2147483647))⟩) (h_a := ⟨(by omega), (by omega)⟩) (h_v := ⟨(by decide), (by decide)⟩)  (p_0 := by omega) (p_1 := by omega)) (fun o V_q hq => ?_)
  obtain ⟨G8, A9, rfl, rfl, hW10, hF11, p12, -⟩ := hq
  have hF14 := Fr_tr hF0 hF11 (Fr_sub (by decide)) (Fr_sub (by decide))
  refine .inl ⟨rfl, ?_⟩
  refine jx_ld (pc_q := 25) (l_q := L7) (st_q := [.int (i32 (r3))]) rfl (jl_iload gL7_4) ?_
  refine jx_ar (pc_q := 26) (st_q := [.int (i32 (2)), .int (i32 (r3))]) rfl rfl rfl rfl ?_
  refine jx_icmp_ne (pc_q := 29) (tg := 35) rfl rfl rfl (Int.le_trans (by decide : (-2147483648 : Int) ≤ -2147483648) b4.1) (Int.le_trans b4.2 (by decide : (2147483647 : Int) ≤ 2147483647)) (by decide) (by decide) (fun h15 => ?_) (fun h15 => ?_)
  · have _q := h15
    refine jx_rt (v := none) rfl rfl rfl rfl rfl rfl ?_
    exact ⟨_, _, rfl, rfl, hW10, hF14, (.inl ⟨by rw [show d2 / 2 - 3 = b1 - 3 by omega, ← p5]; omega, by rw [show d2 / 2 - 3 = b1 - 3 by omega]; exact p12⟩), trivial⟩
  · have _q := h15
    refine jx_ld (pc_q := 30) (l_q := L7) (st_q := [.ref 66]) rfl (jl_aloadn gL7_0) ?_
    refine jx_ld (pc_q := 31) (l_q := L7) (st_q := [.int (i32 (p)), .ref 66]) rfl (jl_iloadn gL7_1) ?_
    refine jx_ld (pc_q := 32) (l_q := L7) (st_q := [.int (i32 (d2)), .int (i32 (p)), .ref 66]) rfl (jl_iloadn gL7_2) ?_
    refine jx_vr (pc_q := 35) (as := [.int (i32 (p)), .int (i32 (d2))]) (st := []) rfl rfl rfl rfl ⟨rfl, rfl, Nat.le_of_ble_eq_true rfl⟩ rfl rfl (c_makeReady (dd := d) (hd := by omega) (hW := hW10) (p := p) (d2 := d2) (m0 := m0) (e_m0 := show A9 72 ((2 * p)).toNat = m0 from (congrFun (hF11.2 72 rfl) _).trans (e_m0)) (m1 := m1) (e_m1 := show A9 72 (((2 * p) + 1)).toNat = m1 from (congrFun (hF11.2 72 rfl) _).trans (e_m1))  (h_p := ⟨(Int.le_trans (by decide : (-2147483648 : Int) ≤ -2147483648) h_p.1), (Int.le_trans h_p.2 (by decide : (2147483647 : Int) ≤ 2147483647))⟩) (h_d2 := ⟨(Int.le_trans (by decide : (-2147483648 : Int) ≤ -2147483648) h_d2.1), (Int.le_trans h_d2.2 (by decide : (2147483647 : Int) ≤ 2147483647))⟩)  (p_0 := by omega) (p_1 := by omega) (p_2 := by omega) (p_3 := by omega) (p_4 := by omega) (p_5 := by omega)) (fun o V_q hq => ?_)
    obtain ⟨G16, A17, rfl, rfl, hW18, hF19, p20, -⟩ := hq
    have hF22 := Fr_tr hF14 hF19 (Fr_sub (by decide)) (Fr_sub (by decide))
    refine .inl ⟨rfl, ?_⟩
    refine jx_rt (v := none) rfl rfl rfl rfl rfl rfl ?_
    exact ⟨_, _, rfl, rfl, hW18, hF22, (.inr ⟨by rw [show d2 / 2 - 3 = b1 - 3 by omega, ← p5]; omega, by rw [show d2 / 2 - 3 = b1 - 3 by omega, ← p12]; exact p20⟩), trivial⟩
