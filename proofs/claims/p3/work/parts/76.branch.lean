/-- one branch less; the last one makes the process behind the PAR ready -/
def ebR (A A_q : Nat → Nat → Int) (p w : Int) : Prop := ∃ A1 : Nat → Nat → Int, A1 = stM A p (w + 1) (i32 (ldM A p (w + 1) - 1)).toInt ∧ ((ldM A1 p (w + 1) ≠ 0 ∧ A_q = goneM A1 p) ∨ (ldM A1 p (w + 1) = 0 ∧ ∃ A3, mkR (stM (stM A1 p (ldM A1 p (w + 2) / 2 - 1) (ldM A1 p w)) p (ldM A1 p (w + 2) / 2 - 3) 0) A3 p (ldM A1 p (w + 2)) ∧ A_q = goneM A3 p))
theorem eb_1 {A A1 A_q : Nat → Nat → Int} {p w r1 v r2 : Int} (h1 : r1 = ldM A p (w + 1)) (hv : v = (i32 (r1 - 1)).toInt) (s1 : A1 = stM A p (w + 1) v) (h2 : r2 = ldM A1 p (w + 1)) (hz : r2 ≠ 0) (g : A_q = goneM A1 p) : ebR A A_q p w := by
  subst h1 hv h2
  exact ⟨A1, s1, .inl ⟨hz, g⟩⟩
theorem eb_2 {A A1 A2 A3 A4 A_q : Nat → Nat → Int} {p w r1 v r2 d r4 b c : Int} (h1 : r1 = ldM A p (w + 1)) (hv : v = (i32 (r1 - 1)).toInt) (s1 : A1 = stM A p (w + 1) v) (h2 : r2 = ldM A1 p (w + 1)) (hz : r2 = 0) (h3 : d = ldM A1 p (w + 2)) (h4 : r4 = ldM A1 p w) (hb : b = d / 2) (hc : c = d / 2) (s2 : A2 = stM A1 p (b - 1) r4) (s3 : A3 = stM A2 p (c - 3) 0) (m : mkR A3 A4 p d) (g : A_q = goneM A4 p) : ebR A A_q p w := by
  subst h1 hv h2 h3 h4 hb hc s2 s3
  exact ⟨A1, s1, .inr ⟨hz, A4, m, g⟩⟩

set_option maxRecDepth 20000 in
set_option maxHeartbeats 4000000 in
theorem c_endBranch {X : jX} {dd : Nat} {c0 c1 : jC} {G : Nat → Int} {A : Nat → Nat → Int} {T : jH} {p w : Int} {m0 m1 : Int} (hd : 5 ≤ dd) (hW : Wk G A) (e_m0 : A 72 ((2 * p)).toNat = m0) (e_m1 : A 72 (((2 * p) + 1)).toNat = m1) (h_p : (-2147483648 : Int) ≤ p ∧ p ≤ 2147483647) (h_w : (-2147483648 : Int) ≤ w ∧ w ≤ 2147483647) (p_0 : 0 ≤ p) (p_1 : p ≤ 5) (p_2 : 0 ≤ m0) (p_3 : m0 ≤ 1099) (p_4 : 0 ≤ m1) (p_5 : m1 ≤ 1099) (p_6 : -1000000 ≤ w) (p_7 : w ≤ 1000000) : wk X dd 383 [.ref 66, .int (i32 p), .int (i32 w)] (rV c0 c1 G A T) (fun o V_q => ∃ (G_q : Nat → Int) (A_q : Nat → Nat → Int), V_q = rV c0 c1 G_q A_q T ∧ o = .inl none ∧ Wk G_q A_q ∧ Fr [] [59, 60, 61, 62, 63, 64, 65, 66, 70, 71, 72, 73] G A G_q A_q ∧ (ebR A A_q (p) (w)) ∧ True) := by
  obtain ⟨d, rfl⟩ : ∃ d, dd = d + 1 := ⟨dd - 1, by omega⟩
  refine wk_of (e := jm383) rfl (Nat.le_of_ble_eq_true rfl) ?_
  show wj X d jm383 (0, [(0, .ref 66), (1, .int (i32 (p))), (2, .int (i32 (w)))], [], rV c0 c1 G A T) _
  have hF0 : Fr [] [59, 60, 61, 62, 63, 64, 65, 66, 70, 71, 72, 73] G A G A := Fr_rf
  have b_m0 : (-2147483648 : Int) ≤ m0 ∧ m0 ≤ 2147483647 := e_m0 ▸ hW.2 72 _
  have b_m1 : (-2147483648 : Int) ≤ m1 ∧ m1 ≤ 2147483647 := e_m1 ▸ hW.2 72 _
  refine jx_ld (pc_q := 1) (l_q := [(0, .ref 66), (1, .int (i32 (p))), (2, .int (i32 (w)))]) (st_q := [.ref 66]) rfl (jl_aloadn rfl) ?_
  refine jx_ld (pc_q := 2) (l_q := [(0, .ref 66), (1, .int (i32 (p))), (2, .int (i32 (w)))]) (st_q := [.int (i32 (p)), .ref 66]) rfl (jl_iloadn rfl) ?_
  refine jx_ld (pc_q := 3) (l_q := [(0, .ref 66), (1, .int (i32 (p))), (2, .int (i32 (w)))]) (st_q := [.int (i32 (w)), .int (i32 (p)), .ref 66]) rfl (jl_iloadn rfl) ?_
  refine jx_ar (pc_q := 4) (st_q := [.int (i32 (1)), .int (i32 (w)), .int (i32 (p)), .ref 66]) rfl rfl rfl rfl ?_
  refine jx_add (pc_q := 5) rfl rfl ?_
  refine jx_ld (pc_q := 6) (l_q := [(0, .ref 66), (1, .int (i32 (p))), (2, .int (i32 (w)))]) (st_q := [.ref 66, .int (i32 ((w + 1))), .int (i32 (p)), .ref 66]) rfl (jl_aloadn rfl) ?_
  refine jx_ld (pc_q := 7) (l_q := [(0, .ref 66), (1, .int (i32 (p))), (2, .int (i32 (w)))]) (st_q := [.int (i32 (p)), .ref 66, .int (i32 ((w + 1))), .int (i32 (p)), .ref 66]) rfl (jl_iloadn rfl) ?_
  refine jx_ld (pc_q := 8) (l_q := [(0, .ref 66), (1, .int (i32 (p))), (2, .int (i32 (w)))]) (st_q := [.int (i32 (w)), .int (i32 (p)), .ref 66, .int (i32 ((w + 1))), .int (i32 (p)), .ref 66]) rfl (jl_iloadn rfl) ?_
  refine jx_ar (pc_q := 9) (st_q := [.int (i32 (1)), .int (i32 (w)), .int (i32 (p)), .ref 66, .int (i32 ((w + 1))), .int (i32 (p)), .ref 66]) rfl rfl rfl rfl ?_
  refine jx_add (pc_q := 10) rfl rfl ?_
  refine jx_vr (pc_q := 13) (as := [.int (i32 (p)), .int (i32 ((w + 1)))]) (st := [.int (i32 ((w + 1))), .int (i32 (p)), .ref 66]) rfl rfl rfl rfl ⟨rfl, rfl, Nat.le_of_ble_eq_true rfl⟩ rfl rfl (c_load (dd := d) (hd := by omega) (hW := hW) (p := p) (a := (w + 1))   (h_p := ⟨(Int.le_trans (by decide : (-2147483648 : Int) ≤ -2147483648) h_p.1), (Int.le_trans h_p.2 (by decide : (2147483647 : Int) ≤ 2147483647))⟩) (h_a := ⟨(by omega), (by omega)⟩)  (p_0 := by omega) (p_1 := by omega)) (fun o V_q hq => ?_)
  obtain ⟨r1, rfl, rfl, b2, p3, -⟩ := hq
  refine .inr ⟨_, rfl, ?_⟩
  refine jx_ar (pc_q := 14) (st_q := [.int (i32 (1)), .int (i32 (r1)), .int (i32 ((w + 1))), .int (i32 (p)), .ref 66]) rfl rfl rfl rfl ?_
  refine jx_sub (pc_q := 15) rfl rfl ?_
  obtain ⟨v9, ev9⟩ : ∃ z, z = (i32 (r1 - 1)).toInt := ⟨_, rfl⟩; have ev8 : i32 (r1 - 1) = i32 v9 := (by rw [ev9]; exact (i32_of _).symm); rw [ev8]; have rv9 : (-2147483648 : Int) ≤ v9 ∧ v9 ≤ 2147483647 := ev9 ▸ i32_rg _
  refine jx_vr (pc_q := 18) (as := [.int (i32 (p)), .int (i32 ((w + 1))), .int (i32 (v9))]) (st := []) rfl rfl rfl rfl ⟨rfl, rfl, Nat.le_of_ble_eq_true rfl⟩ rfl rfl (c_store (dd := d) (hd := by omega) (hW := hW) (p := p) (a := (w + 1)) (v := v9)   (h_p := ⟨(Int.le_trans (by decide : (-2147483648 : Int) ≤ -2147483648) h_p.1), (Int.le_trans h_p.2 (by decide : (2147483647 : Int) ≤ 2147483647))⟩) (h_a := ⟨(by omega), (by omega)⟩) (h_v := ⟨(by omega), (by omega)⟩)  (p_0 := by omega) (p_1 := by omega)) (fun o V_q hq => ?_)
  obtain ⟨G5, A6, rfl, rfl, hW7, hF8, p9, -⟩ := hq
  have hF11 := Fr_tr hF0 hF8 (Fr_sub (by decide)) (Fr_sub (by decide))
  refine .inl ⟨rfl, ?_⟩
  refine jx_ld (pc_q := 19) (l_q := [(0, .ref 66), (1, .int (i32 (p))), (2, .int (i32 (w)))]) (st_q := [.ref 66]) rfl (jl_aloadn rfl) ?_
  refine jx_ld (pc_q := 20) (l_q := [(0, .ref 66), (1, .int (i32 (p))), (2, .int (i32 (w)))]) (st_q := [.int (i32 (p)), .ref 66]) rfl (jl_iloadn rfl) ?_
  refine jx_ld (pc_q := 21) (l_q := [(0, .ref 66), (1, .int (i32 (p))), (2, .int (i32 (w)))]) (st_q := [.int (i32 (w)), .int (i32 (p)), .ref 66]) rfl (jl_iloadn rfl) ?_
  refine jx_ar (pc_q := 22) (st_q := [.int (i32 (1)), .int (i32 (w)), .int (i32 (p)), .ref 66]) rfl rfl rfl rfl ?_
  refine jx_add (pc_q := 23) rfl rfl ?_
  refine jx_vr (pc_q := 26) (as := [.int (i32 (p)), .int (i32 ((w + 1)))]) (st := []) rfl rfl rfl rfl ⟨rfl, rfl, Nat.le_of_ble_eq_true rfl⟩ rfl rfl (c_load (dd := d) (hd := by omega) (hW := hW7) (p := p) (a := (w + 1))   (h_p := ⟨(Int.le_trans (by decide : (-2147483648 : Int) ≤ -2147483648) h_p.1), (Int.le_trans h_p.2 (by decide : (2147483647 : Int) ≤ 2147483647))⟩) (h_a := ⟨(by omega), (by omega)⟩)  (p_0 := by omega) (p_1 := by omega)) (fun o V_q hq => ?_)
  obtain ⟨r12, rfl, rfl, b13, p14, -⟩ := hq
  refine .inr ⟨_, rfl, ?_⟩
  refine jx_if_ne (pc_q := 29) (tg := 71) rfl rfl rfl (Int.le_trans (by decide : (-2147483648 : Int) ≤ -2147483648) b13.1) (Int.le_trans b13.2 (by decide : (2147483647 : Int) ≤ 2147483647)) (fun h16 => ?_) (fun h16 => ?_)
  · have _q := h16
    refine jx_ld (pc_q := 72) (l_q := [(0, .ref 66), (1, .int (i32 (p))), (2, .int (i32 (w)))]) (st_q := [.ref 66]) rfl (jl_aloadn rfl) ?_
    refine jx_ld (pc_q := 73) (l_q := [(0, .ref 66), (1, .int (i32 (p))), (2, .int (i32 (w)))]) (st_q := [.int (i32 (p)), .ref 66]) rfl (jl_iloadn rfl) ?_
    refine jx_vr (pc_q := 76) (as := [.int (i32 (p))]) (st := []) rfl rfl rfl rfl ⟨rfl, rfl, Nat.le_of_ble_eq_true rfl⟩ rfl rfl (c_gone (dd := d) (hd := by omega) (hW := hW7) (p := p)   (h_p := ⟨(Int.le_trans (by decide : (-2147483648 : Int) ≤ -2147483648) h_p.1), (Int.le_trans h_p.2 (by decide : (2147483647 : Int) ≤ 2147483647))⟩)  (p_0 := by omega) (p_1 := by omega)) (fun o V_q hq => ?_)
    obtain ⟨G17, A18, rfl, rfl, hW19, hF20, p21, -⟩ := hq
    have hF23 := Fr_tr hF11 hF20 (Fr_sub (by decide)) (Fr_sub (by decide))
    refine .inl ⟨rfl, ?_⟩
    refine jx_rt (v := none) rfl rfl rfl rfl rfl rfl ?_
    exact ⟨_, _, rfl, rfl, hW19, hF23, (eb_1 p3 ev9 p9 p14 (by omega) p21), trivial⟩
  · have _q := h16
    refine jx_ld (pc_q := 30) (l_q := [(0, .ref 66), (1, .int (i32 (p))), (2, .int (i32 (w)))]) (st_q := [.ref 66]) rfl (jl_aloadn rfl) ?_
    refine jx_ld (pc_q := 31) (l_q := [(0, .ref 66), (1, .int (i32 (p))), (2, .int (i32 (w)))]) (st_q := [.int (i32 (p)), .ref 66]) rfl (jl_iloadn rfl) ?_
    refine jx_ld (pc_q := 32) (l_q := [(0, .ref 66), (1, .int (i32 (p))), (2, .int (i32 (w)))]) (st_q := [.int (i32 (w)), .int (i32 (p)), .ref 66]) rfl (jl_iloadn rfl) ?_
    refine jx_ar (pc_q := 33) (st_q := [.int (i32 (2)), .int (i32 (w)), .int (i32 (p)), .ref 66]) rfl rfl rfl rfl ?_
    refine jx_add (pc_q := 34) rfl rfl ?_
    refine jx_vr (pc_q := 37) (as := [.int (i32 (p)), .int (i32 ((w + 2)))]) (st := []) rfl rfl rfl rfl ⟨rfl, rfl, Nat.le_of_ble_eq_true rfl⟩ rfl rfl (c_load (dd := d) (hd := by omega) (hW := hW7) (p := p) (a := (w + 2))   (h_p := ⟨(Int.le_trans (by decide : (-2147483648 : Int) ≤ -2147483648) h_p.1), (Int.le_trans h_p.2 (by decide : (2147483647 : Int) ≤ 2147483647))⟩) (h_a := ⟨(by omega), (by omega)⟩)  (p_0 := by omega) (p_1 := by omega)) (fun o V_q hq => ?_)
    obtain ⟨r24, rfl, rfl, b25, p26, -⟩ := hq
    refine .inr ⟨_, rfl, ?_⟩
    refine jx_ld (pc_q := 38) (l_q := jSto1 [(0, .ref 66), (1, .int (i32 (p))), (2, .int (i32 (w)))] 3 (.int (i32 (r24)))) (st_q := []) rfl rfl ?_
    obtain ⟨L28, eL28⟩ : ∃ q, q = jSto1 [(0, .ref 66), (1, .int (i32 (p))), (2, .int (i32 (w)))] 3 (.int (i32 (r24))) := ⟨_, rfl⟩
    rw [← eL28]
    have gL28_0 : jGet L28 0 = some (.ref 66) := eL28 ▸ jg_ne (by decide) (rfl : jGet [(0, .ref 66), (1, .int (i32 (p))), (2, .int (i32 (w)))] 0 = some (.ref 66)) rfl
    have gL28_1 : jGet L28 1 = some (.int (i32 (p))) := eL28 ▸ jg_ne (by decide) (rfl : jGet [(0, .ref 66), (1, .int (i32 (p))), (2, .int (i32 (w)))] 1 = some (.int (i32 (p)))) rfl
    have gL28_2 : jGet L28 2 = some (.int (i32 (w))) := eL28 ▸ jg_ne (by decide) (rfl : jGet [(0, .ref 66), (1, .int (i32 (p))), (2, .int (i32 (w)))] 2 = some (.int (i32 (w)))) rfl
    have gL28_3 : jGet L28 3 = some (.int (i32 (r24))) := eL28 ▸ jg_eq
    refine jx_ld (pc_q := 39) (l_q := L28) (st_q := [.ref 66]) rfl (jl_aloadn gL28_0) ?_
    refine jx_ld (pc_q := 40) (l_q := L28) (st_q := [.int (i32 (p)), .ref 66]) rfl (jl_iloadn gL28_1) ?_
    refine jx_ld (pc_q := 41) (l_q := L28) (st_q := [.int (i32 (r24)), .int (i32 (p)), .ref 66]) rfl (jl_iloadn gL28_3) ?_
    refine jx_ar (pc_q := 42) (st_q := [.int (i32 (1)), .int (i32 (r24)), .int (i32 (p)), .ref 66]) rfl rfl rfl rfl ?_
    refine jx_shr (pc_q := 43) rfl rfl ?_
    obtain ⟨b29, eb29⟩ : ∃ z, z = (i32 (r24) >>> (i32 (1) &&& 31)).toInt := ⟨_, rfl⟩
    rw [← eb29]
    have rb29 : (-2147483648 : Int) ≤ b29 ∧ b29 ≤ 2147483647 := eb29 ▸ i32_rg _
    have hb29 := (show b29 = (i32 r24 >>> (i32 1 &&& 31)).toInt from eb29).trans (shr_1 (by omega) (by omega))
    refine jx_ar (pc_q := 44) (st_q := [.int (i32 (1)), .int (i32 (b29)), .int (i32 (p)), .ref 66]) rfl rfl rfl rfl ?_
    refine jx_sub (pc_q := 45) rfl rfl ?_
    refine jx_ld (pc_q := 46) (l_q := L28) (st_q := [.ref 66, .int (i32 ((b29 - 1))), .int (i32 (p)), .ref 66]) rfl (jl_aloadn gL28_0) ?_
    refine jx_ld (pc_q := 47) (l_q := L28) (st_q := [.int (i32 (p)), .ref 66, .int (i32 ((b29 - 1))), .int (i32 (p)), .ref 66]) rfl (jl_iloadn gL28_1) ?_
    refine jx_ld (pc_q := 48) (l_q := L28) (st_q := [.int (i32 (w)), .int (i32 (p)), .ref 66, .int (i32 ((b29 - 1))), .int (i32 (p)), .ref 66]) rfl (jl_iloadn gL28_2) ?_
    refine jx_vr (pc_q := 51) (as := [.int (i32 (p)), .int (i32 (w))]) (st := [.int (i32 ((b29 - 1))), .int (i32 (p)), .ref 66]) rfl rfl rfl rfl ⟨rfl, rfl, Nat.le_of_ble_eq_true rfl⟩ rfl rfl (c_load (dd := d) (hd := by omega) (hW := hW7) (p := p) (a := w)   (h_p := ⟨(Int.le_trans (by decide : (-2147483648 : Int) ≤ -2147483648) h_p.1), (Int.le_trans h_p.2 (by decide : (2147483647 : Int) ≤ 2147483647))⟩) (h_a := ⟨(Int.le_trans (by decide : (-2147483648 : Int) ≤ -2147483648) h_w.1), (Int.le_trans h_w.2 (by decide : (2147483647 : Int) ≤ 2147483647))⟩)  (p_0 := by omega) (p_1 := by omega)) (fun o V_q hq => ?_)
    obtain ⟨r30, rfl, rfl, b31, p32, -⟩ := hq
    refine .inr ⟨_, rfl, ?_⟩
    refine jx_vr (pc_q := 54) (as := [.int (i32 (p)), .int (i32 ((b29 - 1))), .int (i32 (r30))]) (st := []) rfl rfl rfl rfl ⟨rfl, rfl, Nat.le_of_ble_eq_true rfl⟩ rfl rfl (c_store (dd := d) (hd := by omega) (hW := hW7) (p := p) (a := (b29 - 1)) (v := r30)   (h_p := ⟨(Int.le_trans (by decide : (-2147483648 : Int) ≤ -2147483648) h_p.1), (Int.le_trans h_p.2 (by decide : (2147483647 : Int) ≤ 2147483647))⟩) (h_a := ⟨(by omega), (by omega)⟩) (h_v := ⟨(Int.le_trans (by decide : (-2147483648 : Int) ≤ -2147483648) b31.1), (Int.le_trans b31.2 (by decide : (2147483647 : Int) ≤ 2147483647))⟩)  (p_0 := by omega) (p_1 := by omega)) (fun o V_q hq => ?_)
    obtain ⟨G34, A35, rfl, rfl, hW36, hF37, p38, -⟩ := hq
    have hF40 := Fr_tr hF11 hF37 (Fr_sub (by decide)) (Fr_sub (by decide))
    refine .inl ⟨rfl, ?_⟩
    refine jx_ld (pc_q := 55) (l_q := L28) (st_q := [.ref 66]) rfl (jl_aloadn gL28_0) ?_
    refine jx_ld (pc_q := 56) (l_q := L28) (st_q := [.int (i32 (p)), .ref 66]) rfl (jl_iloadn gL28_1) ?_
    refine jx_ld (pc_q := 57) (l_q := L28) (st_q := [.int (i32 (r24)), .int (i32 (p)), .ref 66]) rfl (jl_iloadn gL28_3) ?_
    refine jx_ar (pc_q := 58) (st_q := [.int (i32 (1)), .int (i32 (r24)), .int (i32 (p)), .ref 66]) rfl rfl rfl rfl ?_
    refine jx_shr (pc_q := 59) rfl rfl ?_
    obtain ⟨b41, eb41⟩ : ∃ z, z = (i32 (r24) >>> (i32 (1) &&& 31)).toInt := ⟨_, rfl⟩
    rw [← eb41]
    have rb41 : (-2147483648 : Int) ≤ b41 ∧ b41 ≤ 2147483647 := eb41 ▸ i32_rg _
    have hb41 := (show b41 = (i32 r24 >>> (i32 1 &&& 31)).toInt from eb41).trans (shr_1 (by omega) (by omega))
    refine jx_ar (pc_q := 60) (st_q := [.int (i32 (3)), .int (i32 (b41)), .int (i32 (p)), .ref 66]) rfl rfl rfl rfl ?_
    refine jx_sub (pc_q := 61) rfl rfl ?_
    refine jx_ar (pc_q := 62) (st_q := [.int (i32 (0)), .int (i32 ((b41 - 3))), .int (i32 (p)), .ref 66]) rfl rfl rfl rfl ?_
    refine jx_vr (pc_q := 65) (as := [.int (i32 (p)), .int (i32 ((b41 - 3))), .int (i32 (0))]) (st := []) rfl rfl rfl rfl ⟨rfl, rfl, Nat.le_of_ble_eq_true rfl⟩ rfl rfl (c_store (dd := d) (hd := by omega) (hW := hW36) (p := p) (a := (b41 - 3)) (v := 0)   (h_p := ⟨(Int.le_trans (by decide : (-2147483648 : Int) ≤ -2147483648) h_p.1), (Int.le_trans h_p.2 (by decide : (2147483647 : Int) ≤ 2147483647))⟩) (h_a := ⟨(by omega), (by omega)⟩) (h_v := ⟨(by decide), (by decide)⟩)  (p_0 := by omega) (p_1 := by omega)) (fun o V_q hq => ?_)
    obtain ⟨G42, A43, rfl, rfl, hW44, hF45, p46, -⟩ := hq
    have hF48 := Fr_tr hF40 hF45 (Fr_sub (by decide)) (Fr_sub (by decide))
    refine .inl ⟨rfl, ?_⟩
    refine jx_ld (pc_q := 66) (l_q := L28) (st_q := [.ref 66]) rfl (jl_aloadn gL28_0) ?_
    refine jx_ld (pc_q := 67) (l_q := L28) (st_q := [.int (i32 (p)), .ref 66]) rfl (jl_iloadn gL28_1) ?_
    refine jx_ld (pc_q := 68) (l_q := L28) (st_q := [.int (i32 (r24)), .int (i32 (p)), .ref 66]) rfl (jl_iloadn gL28_3) ?_
    refine jx_vr (pc_q := 71) (as := [.int (i32 (p)), .int (i32 (r24))]) (st := []) rfl rfl rfl rfl ⟨rfl, rfl, Nat.le_of_ble_eq_true rfl⟩ rfl rfl (c_makeReady (dd := d) (hd := by omega) (hW := hW44) (p := p) (d2 := r24) (m0 := m0) (e_m0 := show A43 72 ((2 * p)).toNat = m0 from (congrFun ((hF45.2 72 rfl).trans ((hF37.2 72 rfl).trans (hF8.2 72 rfl))) _).trans (e_m0)) (m1 := m1) (e_m1 := show A43 72 (((2 * p) + 1)).toNat = m1 from (congrFun ((hF45.2 72 rfl).trans ((hF37.2 72 rfl).trans (hF8.2 72 rfl))) _).trans (e_m1))  (h_p := ⟨(Int.le_trans (by decide : (-2147483648 : Int) ≤ -2147483648) h_p.1), (Int.le_trans h_p.2 (by decide : (2147483647 : Int) ≤ 2147483647))⟩) (h_d2 := ⟨(Int.le_trans (by decide : (-2147483648 : Int) ≤ -2147483648) b25.1), (Int.le_trans b25.2 (by decide : (2147483647 : Int) ≤ 2147483647))⟩)  (p_0 := by omega) (p_1 := by omega) (p_2 := by omega) (p_3 := by omega) (p_4 := by omega) (p_5 := by omega)) (fun o V_q hq => ?_)
    obtain ⟨G49, A50, rfl, rfl, hW51, hF52, p53, -⟩ := hq
    have hF55 := Fr_tr hF48 hF52 (Fr_sub (by decide)) (Fr_sub (by decide))
    refine .inl ⟨rfl, ?_⟩
    refine jx_ld (pc_q := 72) (l_q := L28) (st_q := [.ref 66]) rfl (jl_aloadn gL28_0) ?_
    refine jx_ld (pc_q := 73) (l_q := L28) (st_q := [.int (i32 (p)), .ref 66]) rfl (jl_iloadn gL28_1) ?_
    refine jx_vr (pc_q := 76) (as := [.int (i32 (p))]) (st := []) rfl rfl rfl rfl ⟨rfl, rfl, Nat.le_of_ble_eq_true rfl⟩ rfl rfl (c_gone (dd := d) (hd := by omega) (hW := hW51) (p := p)   (h_p := ⟨(Int.le_trans (by decide : (-2147483648 : Int) ≤ -2147483648) h_p.1), (Int.le_trans h_p.2 (by decide : (2147483647 : Int) ≤ 2147483647))⟩)  (p_0 := by omega) (p_1 := by omega)) (fun o V_q hq => ?_)
    obtain ⟨G56, A57, rfl, rfl, hW58, hF59, p60, -⟩ := hq
    have hF62 := Fr_tr hF55 hF59 (Fr_sub (by decide)) (Fr_sub (by decide))
    refine .inl ⟨rfl, ?_⟩
    refine jx_rt (v := none) rfl rfl rfl rfl rfl rfl ?_
    exact ⟨_, _, rfl, rfl, hW58, hF62, (eb_2 p3 ev9 p9 p14 (by omega) p26 p32 hb29 hb41 p38 p46 p53 p60), trivial⟩
