/-- is the guard's channel ready, when it is taken down (A1: the table then) -/
def dsK (A A1 : Nat → Nat → Int) (it im p c : Int) (k : Prop) : Prop := (ldM A p c = A 66 p.toNat ∧ A1 = stM A p c (-1) ∧ (k ↔ (0 ≤ c ∧ c ≤ 13) ∧ hcP A1 it im c)) ∨ (ldM A p c ≠ A 66 p.toNat ∧ A1 = A ∧ (((0 ≤ c ∧ c ≤ 13) ∧ (k ↔ hcP A it im c)) ∨ (¬ (0 ≤ c ∧ c ≤ 13) ∧ (k ↔ ldM A p c ≠ -1))))
def dsR (A A_q : Nat → Nat → Int) (it im p c v : Int) : Prop := ∃ (A1 : Nat → Nat → Int) (k : Prop), dsK A A1 it im p c k ∧ ((k ∧ ldM A1 p (A 64 p.toNat) = -1 ∧ A_q = stM A1 p (A 64 p.toNat) v) ∨ (¬ (k ∧ ldM A1 p (A 64 p.toNat) = -1) ∧ A_q = A1))

set_option maxRecDepth 20000 in
set_option maxHeartbeats 4000000 in
theorem c_disable {X : jX} {dd : Nat} {c0 c1 : jC} {G : Nat → Int} {A : Nat → Nat → Int} {T : jH} {p c v : Int} {it im rw : Int} (hd : 3 ≤ dd) (hW : Wk G A) (e_it : G 111 = it) (e_im : G 110 = im) (e_rw : A 64 (p).toNat = rw) (h_p : (-2147483648 : Int) ≤ p ∧ p ≤ 2147483647) (h_c : (-2147483648 : Int) ≤ c ∧ c ≤ 2147483647) (h_v : (-2147483648 : Int) ≤ v ∧ v ≤ 2147483647) (p_0 : 0 ≤ p) (p_1 : p ≤ 5) : wk X dd 389 [.ref 66, .int (i32 p), .int (i32 c), .int (i32 v)] (rV c0 c1 G A T) (fun o V_q => ∃ (G_q : Nat → Int) (A_q : Nat → Nat → Int), V_q = rV c0 c1 G_q A_q T ∧ o = .inl none ∧ Wk G_q A_q ∧ Fr [] [59] G A G_q A_q ∧ (dsR A A_q (it) (im) (p) (c) (v)) ∧ True) := by
  obtain ⟨d, rfl⟩ : ∃ d, dd = d + 1 := ⟨dd - 1, by omega⟩
  refine wk_of (e := jm389) rfl (Nat.le_of_ble_eq_true rfl) ?_
  show wj X d jm389 (0, [(0, .ref 66), (1, .int (i32 (p))), (2, .int (i32 (c))), (3, .int (i32 (v)))], [], rV c0 c1 G A T) _
  have hF0 : Fr [] [59] G A G A := Fr_rf
  have b_it : (-2147483648 : Int) ≤ it ∧ it ≤ 2147483647 := e_it ▸ hW.1 111
  have b_im : (-2147483648 : Int) ≤ im ∧ im ≤ 2147483647 := e_im ▸ hW.1 110
  have b_rw : (-2147483648 : Int) ≤ rw ∧ rw ≤ 2147483647 := e_rw ▸ hW.2 64 _
  have hrw : A 64 (p).toNat = rw := e_rw
  refine jx_ld (pc_q := 1) (l_q := [(0, .ref 66), (1, .int (i32 (p))), (2, .int (i32 (c))), (3, .int (i32 (v)))]) (st_q := [.ref 66]) rfl (jl_aloadn rfl) ?_
  refine jr_get (pc_q := 4) (i := 95) (v := .ref 131) rfl rfl (by decide) rfl rfl ?_
  refine jx_ld (pc_q := 5) (l_q := [(0, .ref 66), (1, .int (i32 (p))), (2, .int (i32 (c))), (3, .int (i32 (v)))]) (st_q := [.int (i32 (p)), .ref 131]) rfl (jl_iloadn rfl) ?_
  refine jr_ldv (pc_q := 6) (i := 64) (m := 6) (z := p) (y := rw) rfl (by decide) rfl (by decide) (by omega) (by omega) rfl (show A 64 (p).toNat = rw from (e_rw)) ?_
  refine jx_ld (pc_q := 8) (l_q := jSto1 [(0, .ref 66), (1, .int (i32 (p))), (2, .int (i32 (c))), (3, .int (i32 (v)))] 4 (.int (i32 (rw)))) (st_q := []) rfl rfl ?_
  obtain ⟨L1, eL1⟩ : ∃ q, q = jSto1 [(0, .ref 66), (1, .int (i32 (p))), (2, .int (i32 (c))), (3, .int (i32 (v)))] 4 (.int (i32 (rw))) := ⟨_, rfl⟩
  rw [← eL1]
  have gL1_0 : jGet L1 0 = some (.ref 66) := eL1 ▸ jg_ne (by decide) (rfl : jGet [(0, .ref 66), (1, .int (i32 (p))), (2, .int (i32 (c))), (3, .int (i32 (v)))] 0 = some (.ref 66)) rfl
  have gL1_1 : jGet L1 1 = some (.int (i32 (p))) := eL1 ▸ jg_ne (by decide) (rfl : jGet [(0, .ref 66), (1, .int (i32 (p))), (2, .int (i32 (c))), (3, .int (i32 (v)))] 1 = some (.int (i32 (p)))) rfl
  have gL1_2 : jGet L1 2 = some (.int (i32 (c))) := eL1 ▸ jg_ne (by decide) (rfl : jGet [(0, .ref 66), (1, .int (i32 (p))), (2, .int (i32 (c))), (3, .int (i32 (v)))] 2 = some (.int (i32 (c)))) rfl
  have gL1_3 : jGet L1 3 = some (.int (i32 (v))) := eL1 ▸ jg_ne (by decide) (rfl : jGet [(0, .ref 66), (1, .int (i32 (p))), (2, .int (i32 (c))), (3, .int (i32 (v)))] 3 = some (.int (i32 (v)))) rfl
  have gL1_4 : jGet L1 4 = some (.int (i32 (rw))) := eL1 ▸ jg_eq
  refine jx_ld (pc_q := 9) (l_q := L1) (st_q := [.ref 66]) rfl (jl_aloadn gL1_0) ?_
  refine jx_ld (pc_q := 10) (l_q := L1) (st_q := [.int (i32 (p)), .ref 66]) rfl (jl_iloadn gL1_1) ?_
  refine jx_ld (pc_q := 11) (l_q := L1) (st_q := [.int (i32 (c)), .int (i32 (p)), .ref 66]) rfl (jl_iloadn gL1_2) ?_
  refine jx_vr (pc_q := 14) (as := [.int (i32 (p)), .int (i32 (c))]) (st := []) rfl rfl rfl rfl ⟨rfl, rfl, Nat.le_of_ble_eq_true rfl⟩ rfl rfl (c_load (dd := d) (hd := by omega) (hW := hW) (p := p) (a := c)   (h_p := ⟨(Int.le_trans (by decide : (-2147483648 : Int) ≤ -2147483648) h_p.1), (Int.le_trans h_p.2 (by decide : (2147483647 : Int) ≤ 2147483647))⟩) (h_a := ⟨(Int.le_trans (by decide : (-2147483648 : Int) ≤ -2147483648) h_c.1), (Int.le_trans h_c.2 (by decide : (2147483647 : Int) ≤ 2147483647))⟩)  (p_0 := by omega) (p_1 := by omega)) (fun o V_q hq => ?_)
  obtain ⟨r2, rfl, rfl, b3, p4, -⟩ := hq
  refine .inr ⟨_, rfl, ?_⟩
  refine jx_ld (pc_q := 15) (l_q := L1) (st_q := [.ref 66, .int (i32 (r2))]) rfl (jl_aloadn gL1_0) ?_
  refine jr_get (pc_q := 18) (i := 97) (v := .ref 133) rfl rfl (by decide) rfl rfl ?_
  refine jx_ld (pc_q := 19) (l_q := L1) (st_q := [.int (i32 (p)), .ref 133, .int (i32 (r2))]) rfl (jl_iloadn gL1_1) ?_
  have b6 : (-2147483648 : Int) ≤ A 66 (p).toNat ∧ A 66 (p).toNat ≤ 2147483647 := hW.2 66 _
  refine jr_ldv (pc_q := 20) (i := 66) (m := 6) (z := p) (y := A 66 (p).toNat) rfl (by decide) rfl (by decide) (by omega) (by omega) rfl (show A 66 (p).toNat = A 66 (p).toNat from rfl) ?_
  refine jx_icmp_ne (pc_q := 23) (tg := 56) rfl rfl rfl (Int.le_trans (by decide : (-2147483648 : Int) ≤ -2147483648) b3.1) (Int.le_trans b3.2 (by decide : (2147483647 : Int) ≤ 2147483647)) (Int.le_trans (by decide : (-2147483648 : Int) ≤ -2147483648) b6.1) (Int.le_trans b6.2 (by decide : (2147483647 : Int) ≤ 2147483647)) (fun h7 => ?_) (fun h7 => ?_)
  · have _q := h7
    refine jx_ld (pc_q := 57) (l_q := L1) (st_q := [.ref 66]) rfl (jl_aloadn gL1_0) ?_
    refine jx_ld (pc_q := 58) (l_q := L1) (st_q := [.int (i32 (c)), .ref 66]) rfl (jl_iloadn gL1_2) ?_
    refine jx_vr (pc_q := 61) (as := [.int (i32 (c))]) (st := []) rfl rfl rfl rfl ⟨rfl, rfl, Nat.le_of_ble_eq_true rfl⟩ rfl rfl (c_isOutside (dd := d) (hd := by omega) (hW := hW) (a := c)   (h_a := ⟨(Int.le_trans (by decide : (-2147483648 : Int) ≤ -2147483648) h_c.1), (Int.le_trans h_c.2 (by decide : (2147483647 : Int) ≤ 2147483647))⟩)  ) (fun o V_q hq => ?_)
    obtain ⟨r8, rfl, rfl, b9, q10⟩ := hq
    refine .inr ⟨_, rfl, ?_⟩
    rcases q10 with ⟨rfl, a11, a12⟩ | ⟨rfl, a13⟩
    · have _q : True := trivial
      refine jx_if_eq (pc_q := 64) (tg := 72) rfl rfl rfl (by decide) (by decide) (fun h14 => ?_) (fun h14 => ?_)
      · have _q := h14
        exact absurd h14 (by omega)
      · have _q := h14
        refine jx_ld (pc_q := 65) (l_q := L1) (st_q := [.ref 66]) rfl (jl_aloadn gL1_0) ?_
        refine jx_ld (pc_q := 66) (l_q := L1) (st_q := [.int (i32 (c)), .ref 66]) rfl (jl_iloadn gL1_2) ?_
        refine jx_vr (pc_q := 69) (as := [.int (i32 (c))]) (st := []) rfl rfl rfl rfl ⟨rfl, rfl, Nat.le_of_ble_eq_true rfl⟩ rfl rfl (c_hasCome2 (dd := d) (hd := by omega) (hW := hW) (a := c) (it := it) (e_it := show G 111 = it from (e_it)) (im := im) (e_im := show G 110 = im from (e_im))  (h_a := ⟨(Int.le_trans (by decide : (-2147483648 : Int) ≤ -2147483648) h_c.1), (Int.le_trans h_c.2 (by decide : (2147483647 : Int) ≤ 2147483647))⟩)  ) (fun o V_q hq => ?_)
        obtain ⟨r15, rfl, rfl, b16, q17⟩ := hq
        refine .inr ⟨_, rfl, ?_⟩
        rcases q17 with ⟨rfl, a18⟩ | ⟨rfl, a19⟩
        · have _q : True := trivial
          refine jx_go (tg := 87) rfl rfl ?_
          refine jx_ld (pc_q := 89) (l_q := jSto1 L1 5 (.int (i32 (1)))) (st_q := []) rfl rfl ?_
          obtain ⟨L20, eL20⟩ : ∃ q, q = jSto1 L1 5 (.int (i32 (1))) := ⟨_, rfl⟩
          rw [← eL20]
          have gL20_0 : jGet L20 0 = some (.ref 66) := eL20 ▸ jg_ne (by decide) gL1_0 rfl
          have gL20_1 : jGet L20 1 = some (.int (i32 (p))) := eL20 ▸ jg_ne (by decide) gL1_1 rfl
          have gL20_2 : jGet L20 2 = some (.int (i32 (c))) := eL20 ▸ jg_ne (by decide) gL1_2 rfl
          have gL20_3 : jGet L20 3 = some (.int (i32 (v))) := eL20 ▸ jg_ne (by decide) gL1_3 rfl
          have gL20_4 : jGet L20 4 = some (.int (i32 (rw))) := eL20 ▸ jg_ne (by decide) gL1_4 rfl
          have gL20_5 : jGet L20 5 = some (.int (i32 (1))) := eL20 ▸ jg_eq
          refine jx_ld (pc_q := 91) (l_q := L20) (st_q := [.int (i32 (1))]) rfl (jl_iload gL20_5) ?_
          refine jx_if_eq (pc_q := 94) (tg := 113) rfl rfl rfl (by decide) (by decide) (fun h21 => ?_) (fun h21 => ?_)
          · have _q := h21
            exact absurd h21 (by omega)
          · have _q := h21
            refine jx_ld (pc_q := 95) (l_q := L20) (st_q := [.ref 66]) rfl (jl_aloadn gL20_0) ?_
            refine jx_ld (pc_q := 96) (l_q := L20) (st_q := [.int (i32 (p)), .ref 66]) rfl (jl_iloadn gL20_1) ?_
            refine jx_ld (pc_q := 98) (l_q := L20) (st_q := [.int (i32 (rw)), .int (i32 (p)), .ref 66]) rfl (jl_iload gL20_4) ?_
            refine jx_vr (pc_q := 101) (as := [.int (i32 (p)), .int (i32 (rw))]) (st := []) rfl rfl rfl rfl ⟨rfl, rfl, Nat.le_of_ble_eq_true rfl⟩ rfl rfl (c_load (dd := d) (hd := by omega) (hW := hW) (p := p) (a := rw)   (h_p := ⟨(Int.le_trans (by decide : (-2147483648 : Int) ≤ -2147483648) h_p.1), (Int.le_trans h_p.2 (by decide : (2147483647 : Int) ≤ 2147483647))⟩) (h_a := ⟨(Int.le_trans (by decide : (-2147483648 : Int) ≤ -2147483648) b_rw.1), (Int.le_trans b_rw.2 (by decide : (2147483647 : Int) ≤ 2147483647))⟩)  (p_0 := by omega) (p_1 := by omega)) (fun o V_q hq => ?_)
            obtain ⟨r22, rfl, rfl, b23, p24, -⟩ := hq
            refine .inr ⟨_, rfl, ?_⟩
            refine jx_ar (pc_q := 102) (st_q := [.int (i32 (-1)), .int (i32 (r22))]) rfl rfl rfl rfl ?_
            refine jx_icmp_ne (pc_q := 105) (tg := 113) rfl rfl rfl (Int.le_trans (by decide : (-2147483648 : Int) ≤ -2147483648) b23.1) (Int.le_trans b23.2 (by decide : (2147483647 : Int) ≤ 2147483647)) (by decide) (by decide) (fun h26 => ?_) (fun h26 => ?_)
            · have _q := h26
              refine jx_rt (v := none) rfl rfl rfl rfl rfl rfl ?_
              exact ⟨_, _, rfl, rfl, hW, hF0, ⟨_, True, .inr ⟨by rw [← p4]; omega, rfl, .inl ⟨by omega, ⟨fun _ => a18, fun _ => trivial⟩⟩⟩, .inr ⟨fun w => absurd w.2 (by rw [hrw, ← p24]; omega), rfl⟩⟩, trivial⟩
            · have _q := h26
              refine jx_ld (pc_q := 106) (l_q := L20) (st_q := [.ref 66]) rfl (jl_aloadn gL20_0) ?_
              refine jx_ld (pc_q := 107) (l_q := L20) (st_q := [.int (i32 (p)), .ref 66]) rfl (jl_iloadn gL20_1) ?_
              refine jx_ld (pc_q := 109) (l_q := L20) (st_q := [.int (i32 (rw)), .int (i32 (p)), .ref 66]) rfl (jl_iload gL20_4) ?_
              refine jx_ld (pc_q := 110) (l_q := L20) (st_q := [.int (i32 (v)), .int (i32 (rw)), .int (i32 (p)), .ref 66]) rfl (jl_iloadn gL20_3) ?_
              refine jx_vr (pc_q := 113) (as := [.int (i32 (p)), .int (i32 (rw)), .int (i32 (v))]) (st := []) rfl rfl rfl rfl ⟨rfl, rfl, Nat.le_of_ble_eq_true rfl⟩ rfl rfl (c_store (dd := d) (hd := by omega) (hW := hW) (p := p) (a := rw) (v := v)   (h_p := ⟨(Int.le_trans (by decide : (-2147483648 : Int) ≤ -2147483648) h_p.1), (Int.le_trans h_p.2 (by decide : (2147483647 : Int) ≤ 2147483647))⟩) (h_a := ⟨(Int.le_trans (by decide : (-2147483648 : Int) ≤ -2147483648) b_rw.1), (Int.le_trans b_rw.2 (by decide : (2147483647 : Int) ≤ 2147483647))⟩) (h_v := ⟨(Int.le_trans (by decide : (-2147483648 : Int) ≤ -2147483648) h_v.1), (Int.le_trans h_v.2 (by decide : (2147483647 : Int) ≤ 2147483647))⟩)  (p_0 := by omega) (p_1 := by omega)) (fun o V_q hq => ?_)
              obtain ⟨G27, A28, rfl, rfl, hW29, hF30, p31, -⟩ := hq
              have hF33 := Fr_tr hF0 hF30 (Fr_sub (by decide)) (Fr_sub (by decide))
              refine .inl ⟨rfl, ?_⟩
              refine jx_rt (v := none) rfl rfl rfl rfl rfl rfl ?_
              exact ⟨_, _, rfl, rfl, hW29, hF33, ⟨_, True, .inr ⟨by rw [← p4]; omega, rfl, .inl ⟨by omega, ⟨fun _ => a18, fun _ => trivial⟩⟩⟩, .inl ⟨trivial, by rw [hrw, ← p24]; omega, by rw [hrw]; exact p31⟩⟩, trivial⟩
        · have _q : True := trivial
          refine jx_go (tg := 87) rfl rfl ?_
          refine jx_ld (pc_q := 89) (l_q := jSto1 L1 5 (.int (i32 (0)))) (st_q := []) rfl rfl ?_
          obtain ⟨L34, eL34⟩ : ∃ q, q = jSto1 L1 5 (.int (i32 (0))) := ⟨_, rfl⟩
          rw [← eL34]
          have gL34_0 : jGet L34 0 = some (.ref 66) := eL34 ▸ jg_ne (by decide) gL1_0 rfl
          have gL34_1 : jGet L34 1 = some (.int (i32 (p))) := eL34 ▸ jg_ne (by decide) gL1_1 rfl
          have gL34_2 : jGet L34 2 = some (.int (i32 (c))) := eL34 ▸ jg_ne (by decide) gL1_2 rfl
          have gL34_3 : jGet L34 3 = some (.int (i32 (v))) := eL34 ▸ jg_ne (by decide) gL1_3 rfl
          have gL34_4 : jGet L34 4 = some (.int (i32 (rw))) := eL34 ▸ jg_ne (by decide) gL1_4 rfl
          have gL34_5 : jGet L34 5 = some (.int (i32 (0))) := eL34 ▸ jg_eq
          refine jx_ld (pc_q := 91) (l_q := L34) (st_q := [.int (i32 (0))]) rfl (jl_iload gL34_5) ?_
          refine jx_if_eq (pc_q := 94) (tg := 113) rfl rfl rfl (by decide) (by decide) (fun h35 => ?_) (fun h35 => ?_)
          · have _q := h35
            refine jx_rt (v := none) rfl rfl rfl rfl rfl rfl ?_
            exact ⟨_, _, rfl, rfl, hW, hF0, ⟨_, False, .inr ⟨by rw [← p4]; omega, rfl, .inl ⟨by omega, ⟨fun w => w.elim, fun w => absurd w a19⟩⟩⟩, .inr ⟨fun w => w.1.elim, rfl⟩⟩, trivial⟩
          · have _q := h35
            exact absurd h35 (by omega)
    · have _q : True := trivial
      refine jx_if_eq (pc_q := 64) (tg := 72) rfl rfl rfl (by decide) (by decide) (fun h36 => ?_) (fun h36 => ?_)
      · have _q := h36
        refine jx_ld (pc_q := 73) (l_q := L1) (st_q := [.ref 66]) rfl (jl_aloadn gL1_0) ?_
        refine jx_ld (pc_q := 74) (l_q := L1) (st_q := [.int (i32 (p)), .ref 66]) rfl (jl_iloadn gL1_1) ?_
        refine jx_ld (pc_q := 75) (l_q := L1) (st_q := [.int (i32 (c)), .int (i32 (p)), .ref 66]) rfl (jl_iloadn gL1_2) ?_
        refine jx_vr (pc_q := 78) (as := [.int (i32 (p)), .int (i32 (c))]) (st := []) rfl rfl rfl rfl ⟨rfl, rfl, Nat.le_of_ble_eq_true rfl⟩ rfl rfl (c_load (dd := d) (hd := by omega) (hW := hW) (p := p) (a := c)   (h_p := ⟨(Int.le_trans (by decide : (-2147483648 : Int) ≤ -2147483648) h_p.1), (Int.le_trans h_p.2 (by decide : (2147483647 : Int) ≤ 2147483647))⟩) (h_a := ⟨(Int.le_trans (by decide : (-2147483648 : Int) ≤ -2147483648) h_c.1), (Int.le_trans h_c.2 (by decide : (2147483647 : Int) ≤ 2147483647))⟩)  (p_0 := by omega) (p_1 := by omega)) (fun o V_q hq => ?_)
        obtain ⟨r37, rfl, rfl, b38, p39, -⟩ := hq
        refine .inr ⟨_, rfl, ?_⟩
        refine jx_ar (pc_q := 79) (st_q := [.int (i32 (-1)), .int (i32 (r37))]) rfl rfl rfl rfl ?_
        refine jx_icmp_eq (pc_q := 82) (tg := 86) rfl rfl rfl (Int.le_trans (by decide : (-2147483648 : Int) ≤ -2147483648) b38.1) (Int.le_trans b38.2 (by decide : (2147483647 : Int) ≤ 2147483647)) (by decide) (by decide) (fun h41 => ?_) (fun h41 => ?_)
        · have _q := h41
          refine jx_ar (pc_q := 87) (st_q := [.int (i32 (0))]) rfl rfl rfl rfl ?_
          refine jx_ld (pc_q := 89) (l_q := jSto1 L1 5 (.int (i32 (0)))) (st_q := []) rfl rfl ?_
          obtain ⟨L42, eL42⟩ : ∃ q, q = jSto1 L1 5 (.int (i32 (0))) := ⟨_, rfl⟩
          rw [← eL42]
          have gL42_0 : jGet L42 0 = some (.ref 66) := eL42 ▸ jg_ne (by decide) gL1_0 rfl
          have gL42_1 : jGet L42 1 = some (.int (i32 (p))) := eL42 ▸ jg_ne (by decide) gL1_1 rfl
          have gL42_2 : jGet L42 2 = some (.int (i32 (c))) := eL42 ▸ jg_ne (by decide) gL1_2 rfl
          have gL42_3 : jGet L42 3 = some (.int (i32 (v))) := eL42 ▸ jg_ne (by decide) gL1_3 rfl
          have gL42_4 : jGet L42 4 = some (.int (i32 (rw))) := eL42 ▸ jg_ne (by decide) gL1_4 rfl
          have gL42_5 : jGet L42 5 = some (.int (i32 (0))) := eL42 ▸ jg_eq
          refine jx_ld (pc_q := 91) (l_q := L42) (st_q := [.int (i32 (0))]) rfl (jl_iload gL42_5) ?_
          refine jx_if_eq (pc_q := 94) (tg := 113) rfl rfl rfl (by decide) (by decide) (fun h43 => ?_) (fun h43 => ?_)
          · have _q := h43
            refine jx_rt (v := none) rfl rfl rfl rfl rfl rfl ?_
            exact ⟨_, _, rfl, rfl, hW, hF0, ⟨_, False, .inr ⟨by rw [← p4]; omega, rfl, .inr ⟨by omega, ⟨fun w => w.elim, fun w => absurd w (by rw [← p39]; omega)⟩⟩⟩, .inr ⟨fun w => w.1.elim, rfl⟩⟩, trivial⟩
          · have _q := h43
            exact absurd h43 (by omega)
        · have _q := h41
          have _q : True := trivial
          refine jx_ar (pc_q := 83) (st_q := [.int (i32 (1))]) rfl rfl rfl rfl ?_
          refine jx_go (tg := 87) rfl rfl ?_
          refine jx_ld (pc_q := 89) (l_q := jSto1 L1 5 (.int (i32 (1)))) (st_q := []) rfl rfl ?_
          obtain ⟨L44, eL44⟩ : ∃ q, q = jSto1 L1 5 (.int (i32 (1))) := ⟨_, rfl⟩
          rw [← eL44]
          have gL44_0 : jGet L44 0 = some (.ref 66) := eL44 ▸ jg_ne (by decide) gL1_0 rfl
          have gL44_1 : jGet L44 1 = some (.int (i32 (p))) := eL44 ▸ jg_ne (by decide) gL1_1 rfl
          have gL44_2 : jGet L44 2 = some (.int (i32 (c))) := eL44 ▸ jg_ne (by decide) gL1_2 rfl
          have gL44_3 : jGet L44 3 = some (.int (i32 (v))) := eL44 ▸ jg_ne (by decide) gL1_3 rfl
          have gL44_4 : jGet L44 4 = some (.int (i32 (rw))) := eL44 ▸ jg_ne (by decide) gL1_4 rfl
          have gL44_5 : jGet L44 5 = some (.int (i32 (1))) := eL44 ▸ jg_eq
          refine jx_ld (pc_q := 91) (l_q := L44) (st_q := [.int (i32 (1))]) rfl (jl_iload gL44_5) ?_
          refine jx_if_eq (pc_q := 94) (tg := 113) rfl rfl rfl (by decide) (by decide) (fun h45 => ?_) (fun h45 => ?_)
          · have _q := h45
            exact absurd h45 (by omega)
          · have _q := h45
            refine jx_ld (pc_q := 95) (l_q := L44) (st_q := [.ref 66]) rfl (jl_aloadn gL44_0) ?_
            refine jx_ld (pc_q := 96) (l_q := L44) (st_q := [.int (i32 (p)), .ref 66]) rfl (jl_iloadn gL44_1) ?_
            refine jx_ld (pc_q := 98) (l_q := L44) (st_q := [.int (i32 (rw)), .int (i32 (p)), .ref 66]) rfl (jl_iload gL44_4) ?_
            refine jx_vr (pc_q := 101) (as := [.int (i32 (p)), .int (i32 (rw))]) (st := []) rfl rfl rfl rfl ⟨rfl, rfl, Nat.le_of_ble_eq_true rfl⟩ rfl rfl (c_load (dd := d) (hd := by omega) (hW := hW) (p := p) (a := rw)   (h_p := ⟨(Int.le_trans (by decide : (-2147483648 : Int) ≤ -2147483648) h_p.1), (Int.le_trans h_p.2 (by decide : (2147483647 : Int) ≤ 2147483647))⟩) (h_a := ⟨(Int.le_trans (by decide : (-2147483648 : Int) ≤ -2147483648) b_rw.1), (Int.le_trans b_rw.2 (by decide : (2147483647 : Int) ≤ 2147483647))⟩)  (p_0 := by omega) (p_1 := by omega)) (fun o V_q hq => ?_)
            obtain ⟨r46, rfl, rfl, b47, p48, -⟩ := hq
            refine .inr ⟨_, rfl, ?_⟩
            refine jx_ar (pc_q := 102) (st_q := [.int (i32 (-1)), .int (i32 (r46))]) rfl rfl rfl rfl ?_
            refine jx_icmp_ne (pc_q := 105) (tg := 113) rfl rfl rfl (Int.le_trans (by decide : (-2147483648 : Int) ≤ -2147483648) b47.1) (Int.le_trans b47.2 (by decide : (2147483647 : Int) ≤ 2147483647)) (by decide) (by decide) (fun h50 => ?_) (fun h50 => ?_)
            · have _q := h50
              refine jx_rt (v := none) rfl rfl rfl rfl rfl rfl ?_
              exact ⟨_, _, rfl, rfl, hW, hF0, ⟨_, True, .inr ⟨by rw [← p4]; omega, rfl, .inr ⟨by omega, ⟨fun _ => by rw [← p39]; omega, fun _ => trivial⟩⟩⟩, .inr ⟨fun w => absurd w.2 (by rw [hrw, ← p48]; omega), rfl⟩⟩, trivial⟩
            · have _q := h50
              refine jx_ld (pc_q := 106) (l_q := L44) (st_q := [.ref 66]) rfl (jl_aloadn gL44_0) ?_
              refine jx_ld (pc_q := 107) (l_q := L44) (st_q := [.int (i32 (p)), .ref 66]) rfl (jl_iloadn gL44_1) ?_
              refine jx_ld (pc_q := 109) (l_q := L44) (st_q := [.int (i32 (rw)), .int (i32 (p)), .ref 66]) rfl (jl_iload gL44_4) ?_
              refine jx_ld (pc_q := 110) (l_q := L44) (st_q := [.int (i32 (v)), .int (i32 (rw)), .int (i32 (p)), .ref 66]) rfl (jl_iloadn gL44_3) ?_
              refine jx_vr (pc_q := 113) (as := [.int (i32 (p)), .int (i32 (rw)), .int (i32 (v))]) (st := []) rfl rfl rfl rfl ⟨rfl, rfl, Nat.le_of_ble_eq_true rfl⟩ rfl rfl (c_store (dd := d) (hd := by omega) (hW := hW) (p := p) (a := rw) (v := v)   (h_p := ⟨(Int.le_trans (by decide : (-2147483648 : Int) ≤ -2147483648) h_p.1), (Int.le_trans h_p.2 (by decide : (2147483647 : Int) ≤ 2147483647))⟩) (h_a := ⟨(Int.le_trans (by decide : (-2147483648 : Int) ≤ -2147483648) b_rw.1), (Int.le_trans b_rw.2 (by decide : (2147483647 : Int) ≤ 2147483647))⟩) (h_v := ⟨(Int.le_trans (by decide : (-2147483648 : Int) ≤ -2147483648) h_v.1), (Int.le_trans h_v.2 (by decide : (2147483647 : Int) ≤ 2147483647))⟩)  (p_0 := by omega) (p_1 := by omega)) (fun o V_q hq => ?_)
              obtain ⟨G51, A52, rfl, rfl, hW53, hF54, p55, -⟩ := hq
              have hF57 := Fr_tr hF0 hF54 (Fr_sub (by decide)) (Fr_sub (by decide))
              refine .inl ⟨rfl, ?_⟩
              refine jx_rt (v := none) rfl rfl rfl rfl rfl rfl ?_
              exact ⟨_, _, rfl, rfl, hW53, hF57, ⟨_, True, .inr ⟨by rw [← p4]; omega, rfl, .inr ⟨by omega, ⟨fun _ => by rw [← p39]; omega, fun _ => trivial⟩⟩⟩, .inl ⟨trivial, by rw [hrw, ← p48]; omega, by rw [hrw]; exact p55⟩⟩, trivial⟩
      · have _q := h36
        exact absurd h36 (by omega)
  · have _q := h7
    have _q : True := trivial
    refine jx_ld (pc_q := 24) (l_q := L1) (st_q := [.ref 66]) rfl (jl_aloadn gL1_0) ?_
    refine jx_ld (pc_q := 25) (l_q := L1) (st_q := [.int (i32 (p)), .ref 66]) rfl (jl_iloadn gL1_1) ?_
    refine jx_ld (pc_q := 26) (l_q := L1) (st_q := [.int (i32 (c)), .int (i32 (p)), .ref 66]) rfl (jl_iloadn gL1_2) ?_
    refine jx_ar (pc_q := 27) (st_q := [.int (i32 (-1)), .int (i32 (c)), .int (i32 (p)), .ref 66]) rfl rfl rfl rfl ?_
    refine jx_vr (pc_q := 30) (as := [.int (i32 (p)), .int (i32 (c)), .int (i32 (-1))]) (st := []) rfl rfl rfl rfl ⟨rfl, rfl, Nat.le_of_ble_eq_true rfl⟩ rfl rfl (c_store (dd := d) (hd := by omega) (hW := hW) (p := p) (a := c) (v := -1)   (h_p := ⟨(Int.le_trans (by decide : (-2147483648 : Int) ≤ -2147483648) h_p.1), (Int.le_trans h_p.2 (by decide : (2147483647 : Int) ≤ 2147483647))⟩) (h_a := ⟨(Int.le_trans (by decide : (-2147483648 : Int) ≤ -2147483648) h_c.1), (Int.le_trans h_c.2 (by decide : (2147483647 : Int) ≤ 2147483647))⟩) (h_v := ⟨(by decide), (by decide)⟩)  (p_0 := by omega) (p_1 := by omega)) (fun o V_q hq => ?_)
    obtain ⟨G58, A59, rfl, rfl, hW60, hF61, p62, -⟩ := hq
    have hF64 := Fr_tr hF0 hF61 (Fr_sub (by decide)) (Fr_sub (by decide))
    refine .inl ⟨rfl, ?_⟩
    refine jx_ld (pc_q := 31) (l_q := L1) (st_q := [.ref 66]) rfl (jl_aloadn gL1_0) ?_
    refine jx_ld (pc_q := 32) (l_q := L1) (st_q := [.int (i32 (c)), .ref 66]) rfl (jl_iloadn gL1_2) ?_
    refine jx_vr (pc_q := 35) (as := [.int (i32 (c))]) (st := []) rfl rfl rfl rfl ⟨rfl, rfl, Nat.le_of_ble_eq_true rfl⟩ rfl rfl (c_isOutside (dd := d) (hd := by omega) (hW := hW60) (a := c)   (h_a := ⟨(Int.le_trans (by decide : (-2147483648 : Int) ≤ -2147483648) h_c.1), (Int.le_trans h_c.2 (by decide : (2147483647 : Int) ≤ 2147483647))⟩)  ) (fun o V_q hq => ?_)
    obtain ⟨r65, rfl, rfl, b66, q67⟩ := hq
    refine .inr ⟨_, rfl, ?_⟩
    rcases q67 with ⟨rfl, a68, a69⟩ | ⟨rfl, a70⟩
    · have _q : True := trivial
      refine jx_if_eq (pc_q := 38) (tg := 50) rfl rfl rfl (by decide) (by decide) (fun h71 => ?_) (fun h71 => ?_)
      · have _q := h71
        exact absurd h71 (by omega)
      · have _q := h71
        refine jx_ld (pc_q := 39) (l_q := L1) (st_q := [.ref 66]) rfl (jl_aloadn gL1_0) ?_
        refine jx_ld (pc_q := 40) (l_q := L1) (st_q := [.int (i32 (c)), .ref 66]) rfl (jl_iloadn gL1_2) ?_
        refine jx_vr (pc_q := 43) (as := [.int (i32 (c))]) (st := []) rfl rfl rfl rfl ⟨rfl, rfl, Nat.le_of_ble_eq_true rfl⟩ rfl rfl (c_hasCome2 (dd := d) (hd := by omega) (hW := hW60) (a := c) (it := it) (e_it := show G58 111 = it from ((hF61.1 111 rfl).trans (e_it))) (im := im) (e_im := show G58 110 = im from ((hF61.1 110 rfl).trans (e_im)))  (h_a := ⟨(Int.le_trans (by decide : (-2147483648 : Int) ≤ -2147483648) h_c.1), (Int.le_trans h_c.2 (by decide : (2147483647 : Int) ≤ 2147483647))⟩)  ) (fun o V_q hq => ?_)
        obtain ⟨r72, rfl, rfl, b73, q74⟩ := hq
        refine .inr ⟨_, rfl, ?_⟩
        rcases q74 with ⟨rfl, a75⟩ | ⟨rfl, a76⟩
        · have _q : True := trivial
          refine jx_if_eq (pc_q := 46) (tg := 50) rfl rfl rfl (by decide) (by decide) (fun h77 => ?_) (fun h77 => ?_)
          · have _q := h77
            exact absurd h77 (by omega)
          · have _q := h77
            refine jx_ar (pc_q := 47) (st_q := [.int (i32 (1))]) rfl rfl rfl rfl ?_
            refine jx_go (tg := 51) rfl rfl ?_
            refine jx_ld (pc_q := 53) (l_q := jSto1 L1 5 (.int (i32 (1)))) (st_q := []) rfl rfl ?_
            obtain ⟨L78, eL78⟩ : ∃ q, q = jSto1 L1 5 (.int (i32 (1))) := ⟨_, rfl⟩
            rw [← eL78]
            have gL78_0 : jGet L78 0 = some (.ref 66) := eL78 ▸ jg_ne (by decide) gL1_0 rfl
            have gL78_1 : jGet L78 1 = some (.int (i32 (p))) := eL78 ▸ jg_ne (by decide) gL1_1 rfl
            have gL78_2 : jGet L78 2 = some (.int (i32 (c))) := eL78 ▸ jg_ne (by decide) gL1_2 rfl
            have gL78_3 : jGet L78 3 = some (.int (i32 (v))) := eL78 ▸ jg_ne (by decide) gL1_3 rfl
            have gL78_4 : jGet L78 4 = some (.int (i32 (rw))) := eL78 ▸ jg_ne (by decide) gL1_4 rfl
            have gL78_5 : jGet L78 5 = some (.int (i32 (1))) := eL78 ▸ jg_eq
            refine jx_go (tg := 89) rfl rfl ?_
            refine jx_ld (pc_q := 91) (l_q := L78) (st_q := [.int (i32 (1))]) rfl (jl_iload gL78_5) ?_
            refine jx_if_eq (pc_q := 94) (tg := 113) rfl rfl rfl (by decide) (by decide) (fun h79 => ?_) (fun h79 => ?_)
            · have _q := h79
              exact absurd h79 (by omega)
            · have _q := h79
              refine jx_ld (pc_q := 95) (l_q := L78) (st_q := [.ref 66]) rfl (jl_aloadn gL78_0) ?_
              refine jx_ld (pc_q := 96) (l_q := L78) (st_q := [.int (i32 (p)), .ref 66]) rfl (jl_iloadn gL78_1) ?_
              refine jx_ld (pc_q := 98) (l_q := L78) (st_q := [.int (i32 (rw)), .int (i32 (p)), .ref 66]) rfl (jl_iload gL78_4) ?_
              refine jx_vr (pc_q := 101) (as := [.int (i32 (p)), .int (i32 (rw))]) (st := []) rfl rfl rfl rfl ⟨rfl, rfl, Nat.le_of_ble_eq_true rfl⟩ rfl rfl (c_load (dd := d) (hd := by omega) (hW := hW60) (p := p) (a := rw)   (h_p := ⟨(Int.le_trans (by decide : (-2147483648 : Int) ≤ -2147483648) h_p.1), (Int.le_trans h_p.2 (by decide : (2147483647 : Int) ≤ 2147483647))⟩) (h_a := ⟨(Int.le_trans (by decide : (-2147483648 : Int) ≤ -2147483648) b_rw.1), (Int.le_trans b_rw.2 (by decide : (2147483647 : Int) ≤ 2147483647))⟩)  (p_0 := by omega) (p_1 := by omega)) (fun o V_q hq => ?_)
              obtain ⟨r80, rfl, rfl, b81, p82, -⟩ := hq
              refine .inr ⟨_, rfl, ?_⟩
              refine jx_ar (pc_q := 102) (st_q := [.int (i32 (-1)), .int (i32 (r80))]) rfl rfl rfl rfl ?_
              refine jx_icmp_ne (pc_q := 105) (tg := 113) rfl rfl rfl (Int.le_trans (by decide : (-2147483648 : Int) ≤ -2147483648) b81.1) (Int.le_trans b81.2 (by decide : (2147483647 : Int) ≤ 2147483647)) (by decide) (by decide) (fun h84 => ?_) (fun h84 => ?_)
              · have _q := h84
                refine jx_rt (v := none) rfl rfl rfl rfl rfl rfl ?_
                exact ⟨_, _, rfl, rfl, hW60, hF64, ⟨_, True, .inl ⟨by rw [← p4]; omega, p62, ⟨fun _ => ⟨by omega, a75⟩, fun _ => trivial⟩⟩, .inr ⟨fun w => absurd w.2 (by rw [hrw, ← p82]; omega), rfl⟩⟩, trivial⟩
              · have _q := h84
                refine jx_ld (pc_q := 106) (l_q := L78) (st_q := [.ref 66]) rfl (jl_aloadn gL78_0) ?_
                refine jx_ld (pc_q := 107) (l_q := L78) (st_q := [.int (i32 (p)), .ref 66]) rfl (jl_iloadn gL78_1) ?_
                refine jx_ld (pc_q := 109) (l_q := L78) (st_q := [.int (i32 (rw)), .int (i32 (p)), .ref 66]) rfl (jl_iload gL78_4) ?_
                refine jx_ld (pc_q := 110) (l_q := L78) (st_q := [.int (i32 (v)), .int (i32 (rw)), .int (i32 (p)), .ref 66]) rfl (jl_iloadn gL78_3) ?_
                refine jx_vr (pc_q := 113) (as := [.int (i32 (p)), .int (i32 (rw)), .int (i32 (v))]) (st := []) rfl rfl rfl rfl ⟨rfl, rfl, Nat.le_of_ble_eq_true rfl⟩ rfl rfl (c_store (dd := d) (hd := by omega) (hW := hW60) (p := p) (a := rw) (v := v)   (h_p := ⟨(Int.le_trans (by decide : (-2147483648 : Int) ≤ -2147483648) h_p.1), (Int.le_trans h_p.2 (by decide : (2147483647 : Int) ≤ 2147483647))⟩) (h_a := ⟨(Int.le_trans (by decide : (-2147483648 : Int) ≤ -2147483648) b_rw.1), (Int.le_trans b_rw.2 (by decide : (2147483647 : Int) ≤ 2147483647))⟩) (h_v := ⟨(Int.le_trans (by decide : (-2147483648 : Int) ≤ -2147483648) h_v.1), (Int.le_trans h_v.2 (by decide : (2147483647 : Int) ≤ 2147483647))⟩)  (p_0 := by omega) (p_1 := by omega)) (fun o V_q hq => ?_)
                obtain ⟨G85, A86, rfl, rfl, hW87, hF88, p89, -⟩ := hq
                have hF91 := Fr_tr hF64 hF88 (Fr_sub (by decide)) (Fr_sub (by decide))
                refine .inl ⟨rfl, ?_⟩
                refine jx_rt (v := none) rfl rfl rfl rfl rfl rfl ?_
                exact ⟨_, _, rfl, rfl, hW87, hF91, ⟨_, True, .inl ⟨by rw [← p4]; omega, p62, ⟨fun _ => ⟨by omega, a75⟩, fun _ => trivial⟩⟩, .inl ⟨trivial, by rw [hrw, ← p82]; omega, by rw [hrw]; exact p89⟩⟩, trivial⟩
        · have _q : True := trivial
          refine jx_if_eq (pc_q := 46) (tg := 50) rfl rfl rfl (by decide) (by decide) (fun h92 => ?_) (fun h92 => ?_)
          · have _q := h92
            refine jx_ar (pc_q := 51) (st_q := [.int (i32 (0))]) rfl rfl rfl rfl ?_
            refine jx_ld (pc_q := 53) (l_q := jSto1 L1 5 (.int (i32 (0)))) (st_q := []) rfl rfl ?_
            obtain ⟨L93, eL93⟩ : ∃ q, q = jSto1 L1 5 (.int (i32 (0))) := ⟨_, rfl⟩
            rw [← eL93]
            have gL93_0 : jGet L93 0 = some (.ref 66) := eL93 ▸ jg_ne (by decide) gL1_0 rfl
            have gL93_1 : jGet L93 1 = some (.int (i32 (p))) := eL93 ▸ jg_ne (by decide) gL1_1 rfl
            have gL93_2 : jGet L93 2 = some (.int (i32 (c))) := eL93 ▸ jg_ne (by decide) gL1_2 rfl
            have gL93_3 : jGet L93 3 = some (.int (i32 (v))) := eL93 ▸ jg_ne (by decide) gL1_3 rfl
            have gL93_4 : jGet L93 4 = some (.int (i32 (rw))) := eL93 ▸ jg_ne (by decide) gL1_4 rfl
            have gL93_5 : jGet L93 5 = some (.int (i32 (0))) := eL93 ▸ jg_eq
            refine jx_go (tg := 89) rfl rfl ?_
            refine jx_ld (pc_q := 91) (l_q := L93) (st_q := [.int (i32 (0))]) rfl (jl_iload gL93_5) ?_
            refine jx_if_eq (pc_q := 94) (tg := 113) rfl rfl rfl (by decide) (by decide) (fun h94 => ?_) (fun h94 => ?_)
            · have _q := h94
              refine jx_rt (v := none) rfl rfl rfl rfl rfl rfl ?_
              exact ⟨_, _, rfl, rfl, hW60, hF64, ⟨_, False, .inl ⟨by rw [← p4]; omega, p62, ⟨fun w => w.elim, fun w => absurd w.2 a76⟩⟩, .inr ⟨fun w => w.1.elim, rfl⟩⟩, trivial⟩
            · have _q := h94
              exact absurd h94 (by omega)
          · have _q := h92
            exact absurd h92 (by omega)
    · have _q : True := trivial
      refine jx_if_eq (pc_q := 38) (tg := 50) rfl rfl rfl (by decide) (by decide) (fun h95 => ?_) (fun h95 => ?_)
      · have _q := h95
        refine jx_ar (pc_q := 51) (st_q := [.int (i32 (0))]) rfl rfl rfl rfl ?_
        refine jx_ld (pc_q := 53) (l_q := jSto1 L1 5 (.int (i32 (0)))) (st_q := []) rfl rfl ?_
        obtain ⟨L96, eL96⟩ : ∃ q, q = jSto1 L1 5 (.int (i32 (0))) := ⟨_, rfl⟩
        rw [← eL96]
        have gL96_0 : jGet L96 0 = some (.ref 66) := eL96 ▸ jg_ne (by decide) gL1_0 rfl
        have gL96_1 : jGet L96 1 = some (.int (i32 (p))) := eL96 ▸ jg_ne (by decide) gL1_1 rfl
        have gL96_2 : jGet L96 2 = some (.int (i32 (c))) := eL96 ▸ jg_ne (by decide) gL1_2 rfl
        have gL96_3 : jGet L96 3 = some (.int (i32 (v))) := eL96 ▸ jg_ne (by decide) gL1_3 rfl
        have gL96_4 : jGet L96 4 = some (.int (i32 (rw))) := eL96 ▸ jg_ne (by decide) gL1_4 rfl
        have gL96_5 : jGet L96 5 = some (.int (i32 (0))) := eL96 ▸ jg_eq
        refine jx_go (tg := 89) rfl rfl ?_
        refine jx_ld (pc_q := 91) (l_q := L96) (st_q := [.int (i32 (0))]) rfl (jl_iload gL96_5) ?_
        refine jx_if_eq (pc_q := 94) (tg := 113) rfl rfl rfl (by decide) (by decide) (fun h97 => ?_) (fun h97 => ?_)
        · have _q := h97
          refine jx_rt (v := none) rfl rfl rfl rfl rfl rfl ?_
          exact ⟨_, _, rfl, rfl, hW60, hF64, ⟨_, False, .inl ⟨by rw [← p4]; omega, p62, ⟨fun w => w.elim, fun w => by have w1 := w.1; omega⟩⟩, .inr ⟨fun w => w.1.elim, rfl⟩⟩, trivial⟩
        · have _q := h97
          exact absurd h97 (by omega)
      · have _q := h95
        exact absurd h95 (by omega)
