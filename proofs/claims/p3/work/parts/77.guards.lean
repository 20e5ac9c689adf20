/-- something has come on a channel of the outside or a link (it, im: input taken, input there) -/
def hcP (A : Nat → Nat → Int) (it im a : Int) : Prop := (0 ≤ a ∧ a ≤ 11 ∧ A 83 a.toNat = 4) ∨ (¬ (0 ≤ a ∧ a ≤ 11) ∧ a = 13 ∧ it < im)
/-- a guard's channel is put up -/
def enR (A A_q : Nat → Nat → Int) (it im p c : Int) : Prop := (0 ≤ c ∧ c ≤ 13 ∧ hcP A it im c ∧ A_q = stM A p (A 64 p.toNat - 3) 3) ∨ (¬ (0 ≤ c ∧ c ≤ 13 ∧ hcP A it im c) ∧ ((ldM A p c = -1 ∧ A_q = stM A p c (A 66 p.toNat)) ∨ (ldM A p c ≠ -1 ∧ ldM A p c = A 66 p.toNat ∧ A_q = A) ∨ (ldM A p c ≠ -1 ∧ ldM A p c ≠ A 66 p.toNat ∧ A_q = stM A p (A 64 p.toNat - 3) 3)))

set_option maxRecDepth 20000 in
set_option maxHeartbeats 4000000 in
theorem c_hasCome2 {X : jX} {dd : Nat} {c0 c1 : jC} {G : Nat → Int} {A : Nat → Nat → Int} {T : jH} {a : Int} {it im : Int} (hd : 2 ≤ dd) (hW : Wk G A) (e_it : G 111 = it) (e_im : G 110 = im) (h_a : (-2147483648 : Int) ≤ a ∧ a ≤ 2147483647) : wk X dd 386 [.ref 66, .int (i32 a)] (rV c0 c1 G A T) (fun o V_q => ∃ (r : Int), V_q = rV c0 c1 G A T ∧ o = .inl (some (.int (i32 r))) ∧ ((0 : Int) ≤ r ∧ r ≤ 1) ∧ ((r = 1 ∧ (hcP A (it) (im) (a))) ∨ (r = 0 ∧ (¬ hcP A (it) (im) (a))))) := by
  obtain ⟨d, rfl⟩ : ∃ d, dd = d + 1 := ⟨dd - 1, by omega⟩
  refine wk_of (e := jm386) rfl (Nat.le_of_ble_eq_true rfl) ?_
  show wj X d jm386 (0, [(0, .ref 66), (1, .int (i32 (a)))], [], rV c0 c1 G A T) _
  have b_it : (-2147483648 : Int) ≤ it ∧ it ≤ 2147483647 := e_it ▸ hW.1 111
  have b_im : (-2147483648 : Int) ≤ im ∧ im ≤ 2147483647 := e_im ▸ hW.1 110
  refine jx_ld (pc_q := 1) (l_q := [(0, .ref 66), (1, .int (i32 (a)))]) (st_q := [.ref 66]) rfl (jl_aloadn rfl) ?_
  refine jx_ld (pc_q := 2) (l_q := [(0, .ref 66), (1, .int (i32 (a)))]) (st_q := [.int (i32 (a)), .ref 66]) rfl (jl_iloadn rfl) ?_
  refine jx_vr (pc_q := 5) (as := [.int (i32 (a))]) (st := []) rfl rfl rfl rfl ⟨rfl, rfl, Nat.le_of_ble_eq_true rfl⟩ rfl rfl (c_isLinkIn (dd := d) (hd := by omega) (hW := hW) (a := a)   (h_a := ⟨(Int.le_trans (by decide : (-2147483648 : Int) ≤ -2147483648) h_a.1), (Int.le_trans h_a.2 (by decide : (2147483647 : Int) ≤ 2147483647))⟩)  ) (fun o V_q hq => ?_)
  obtain ⟨r1, rfl, rfl, b2, q3⟩ := hq
  refine .inr ⟨_, rfl, ?_⟩
  rcases q3 with ⟨rfl, a4, a5⟩ | ⟨rfl, a6⟩
  · have _q : True := trivial
    refine jx_if_eq (pc_q := 8) (tg := 26) rfl rfl rfl (by decide) (by decide) (fun h7 => ?_) (fun h7 => ?_)
    · have _q := h7
      exact absurd h7 (by omega)
    · have _q := h7
      refine jx_ld (pc_q := 9) (l_q := [(0, .ref 66), (1, .int (i32 (a)))]) (st_q := [.ref 66]) rfl (jl_aloadn rfl) ?_
      refine jr_get (pc_q := 12) (i := 117) (v := .ref 150) rfl rfl (by decide) rfl rfl ?_
      refine jx_ld (pc_q := 13) (l_q := [(0, .ref 66), (1, .int (i32 (a)))]) (st_q := [.int (i32 (a)), .ref 150]) rfl (jl_iloadn rfl) ?_
      have b8 : (-2147483648 : Int) ≤ A 83 (a).toNat ∧ A 83 (a).toNat ≤ 2147483647 := hW.2 83 _
      refine jr_ldv (pc_q := 14) (i := 83) (m := 12) (z := a) (y := A 83 (a).toNat) rfl (by decide) rfl (by decide) (by omega) (by omega) rfl (show A 83 (a).toNat = A 83 (a).toNat from rfl) ?_
      refine jx_ar (pc_q := 15) (st_q := [.int (i32 (4)), .int (i32 (A 83 (a).toNat))]) rfl rfl rfl rfl ?_
      refine jx_icmp_ne (pc_q := 18) (tg := 22) rfl rfl rfl (Int.le_trans (by decide : (-2147483648 : Int) ≤ -2147483648) b8.1) (Int.le_trans b8.2 (by decide : (2147483647 : Int) ≤ 2147483647)) (by decide) (by decide) (fun h9 => ?_) (fun h9 => ?_)
      · have _q := h9
        refine jx_ar (pc_q := 23) (st_q := [.int (i32 (0))]) rfl rfl rfl rfl ?_
        refine jx_go (tg := 48) rfl rfl ?_
        refine jx_rt (v := some (.int (i32 (0)))) rfl rfl rfl rfl rfl (by first | rfl | exact jRet_b (by omega)) ?_
        exact ⟨_, rfl, rfl, by omega, by first | exact Or.inl (⟨by omega, (by unfold hcP; omega)⟩) | exact Or.inr ((⟨by omega, (by unfold hcP; omega)⟩))⟩
      · have _q := h9
        refine jx_ar (pc_q := 19) (st_q := [.int (i32 (1))]) rfl rfl rfl rfl ?_
        refine jx_go (tg := 48) rfl rfl ?_
        refine jx_rt (v := some (.int (i32 (1)))) rfl rfl rfl rfl rfl (by first | rfl | exact jRet_b (by omega)) ?_
        exact ⟨_, rfl, rfl, by omega, by first | exact Or.inl (⟨by omega, (by unfold hcP; omega)⟩) | exact Or.inr ((⟨by omega, (by unfold hcP; omega)⟩))⟩
  · have _q : True := trivial
    refine jx_if_eq (pc_q := 8) (tg := 26) rfl rfl rfl (by decide) (by decide) (fun h10 => ?_) (fun h10 => ?_)
    · have _q := h10
      refine jx_ld (pc_q := 27) (l_q := [(0, .ref 66), (1, .int (i32 (a)))]) (st_q := [.int (i32 (a))]) rfl (jl_iloadn rfl) ?_
      refine jx_ar (pc_q := 29) (st_q := [.int (i32 (13)), .int (i32 (a))]) rfl rfl rfl rfl ?_
      refine jx_icmp_ne (pc_q := 32) (tg := 47) rfl rfl rfl (Int.le_trans (by decide : (-2147483648 : Int) ≤ -2147483648) h_a.1) (Int.le_trans h_a.2 (by decide : (2147483647 : Int) ≤ 2147483647)) (by decide) (by decide) (fun h11 => ?_) (fun h11 => ?_)
      · have _q := h11
        refine jx_ar (pc_q := 48) (st_q := [.int (i32 (0))]) rfl rfl rfl rfl ?_
        refine jx_rt (v := some (.int (i32 (0)))) rfl rfl rfl rfl rfl (by first | rfl | exact jRet_b (by omega)) ?_
        exact ⟨_, rfl, rfl, by omega, by first | exact Or.inl (⟨by omega, (by unfold hcP; omega)⟩) | exact Or.inr ((⟨by omega, (by unfold hcP; omega)⟩))⟩
      · have _q := h11
        refine jx_ld (pc_q := 33) (l_q := [(0, .ref 66), (1, .int (i32 (a)))]) (st_q := [.ref 66]) rfl (jl_aloadn rfl) ?_
        refine jr_get (pc_q := 36) (i := 111) (v := .int (i32 (it))) rfl rfl (by decide) (rFv_eq (by decide) (show G 111 = it from (e_it))) rfl ?_
        refine jx_ld (pc_q := 37) (l_q := [(0, .ref 66), (1, .int (i32 (a)))]) (st_q := [.ref 66, .int (i32 (it))]) rfl (jl_aloadn rfl) ?_
        refine jr_get (pc_q := 40) (i := 110) (v := .int (i32 (im))) rfl rfl (by decide) (rFv_eq (by decide) (show G 110 = im from (e_im))) rfl ?_
        refine jx_icmp_ge (pc_q := 43) (tg := 47) rfl rfl rfl (Int.le_trans (by decide : (-2147483648 : Int) ≤ -2147483648) b_it.1) (Int.le_trans b_it.2 (by decide : (2147483647 : Int) ≤ 2147483647)) (Int.le_trans (by decide : (-2147483648 : Int) ≤ -2147483648) b_im.1) (Int.le_trans b_im.2 (by decide : (2147483647 : Int) ≤ 2147483647)) (fun h12 => ?_) (fun h12 => ?_)
        · have _q := h12
          refine jx_ar (pc_q := 48) (st_q := [.int (i32 (0))]) rfl rfl rfl rfl ?_
          refine jx_rt (v := some (.int (i32 (0)))) rfl rfl rfl rfl rfl (by first | rfl | exact jRet_b (by omega)) ?_
          exact ⟨_, rfl, rfl, by omega, by first | exact Or.inl (⟨by omega, (by unfold hcP; omega)⟩) | exact Or.inr ((⟨by omega, (by unfold hcP; omega)⟩))⟩
        · have _q := h12
          refine jx_ar (pc_q := 44) (st_q := [.int (i32 (1))]) rfl rfl rfl rfl ?_
          refine jx_go (tg := 48) rfl rfl ?_
          refine jx_rt (v := some (.int (i32 (1)))) rfl rfl rfl rfl rfl (by first | rfl | exact jRet_b (by omega)) ?_
          exact ⟨_, rfl, rfl, by omega, by first | exact Or.inl (⟨by omega, (by unfold hcP; omega)⟩) | exact Or.inr ((⟨by omega, (by unfold hcP; omega)⟩))⟩
    · have _q := h10
      exact absurd h10 (by omega)
set_option maxRecDepth 20000 in
set_option maxHeartbeats 4000000 in
theorem c_enable {X : jX} {dd : Nat} {c0 c1 : jC} {G : Nat → Int} {A : Nat → Nat → Int} {T : jH} {p c : Int} {it im rw : Int} (hd : 3 ≤ dd) (hW : Wk G A) (e_it : G 111 = it) (e_im : G 110 = im) (e_rw : A 64 (p).toNat = rw) (h_p : (-2147483648 : Int) ≤ p ∧ p ≤ 2147483647) (h_c : (-2147483648 : Int) ≤ c ∧ c ≤ 2147483647) (p_0 : 0 ≤ p) (p_1 : p ≤ 5) (p_2 : -1000000 ≤ rw) (p_3 : rw ≤ 1000000) : wk X dd 388 [.ref 66, .int (i32 p), .int (i32 c)] (rV c0 c1 G A T) (fun o V_q => ∃ (G_q : Nat → Int) (A_q : Nat → Nat → Int), V_q = rV c0 c1 G_q A_q T ∧ o = .inl none ∧ Wk G_q A_q ∧ Fr [] [59] G A G_q A_q ∧ (enR A A_q (it) (im) (p) (c)) ∧ True) := by
  obtain ⟨d, rfl⟩ : ∃ d, dd = d + 1 := ⟨dd - 1, by omega⟩
  refine wk_of (e := jm388) rfl (Nat.le_of_ble_eq_true rfl) ?_
  show wj X d jm388 (0, [(0, .ref 66), (1, .int (i32 (p))), (2, .int (i32 (c)))], [], rV c0 c1 G A T) _
  have hF0 : Fr [] [59] G A G A := Fr_rf
  have b_it : (-2147483648 : Int) ≤ it ∧ it ≤ 2147483647 := e_it ▸ hW.1 111
  have b_im : (-2147483648 : Int) ≤ im ∧ im ≤ 2147483647 := e_im ▸ hW.1 110
  have b_rw : (-2147483648 : Int) ≤ rw ∧ rw ≤ 2147483647 := e_rw ▸ hW.2 64 _
  have hrw : A 64 (p).toNat = rw := e_rw
  refine jx_ld (pc_q := 1) (l_q := [(0, .ref 66), (1, .int (i32 (p))), (2, .int (i32 (c)))]) (st_q := [.ref 66]) rfl (jl_aloadn rfl) ?_
  refine jr_get (pc_q := 4) (i := 95) (v := .ref 131) rfl rfl (by decide) rfl rfl ?_
  refine jx_ld (pc_q := 5) (l_q := [(0, .ref 66), (1, .int (i32 (p))), (2, .int (i32 (c)))]) (st_q := [.int (i32 (p)), .ref 131]) rfl (jl_iloadn rfl) ?_
  refine jr_ldv (pc_q := 6) (i := 64) (m := 6) (z := p) (y := rw) rfl (by decide) rfl (by decide) (by omega) (by omega) rfl (show A 64 (p).toNat = rw from (e_rw)) ?_
  refine jx_ld (pc_q := 7) (l_q := jSto1 [(0, .ref 66), (1, .int (i32 (p))), (2, .int (i32 (c)))] 3 (.int (i32 (rw)))) (st_q := []) rfl rfl ?_
  obtain ⟨L1, eL1⟩ : ∃ q, q = jSto1 [(0, .ref 66), (1, .int (i32 (p))), (2, .int (i32 (c)))] 3 (.int (i32 (rw))) := ⟨_, rfl⟩
  rw [← eL1]
  have gL1_0 : jGet L1 0 = some (.ref 66) := eL1 ▸ jg_ne (by decide) (rfl : jGet [(0, .ref 66), (1, .int (i32 (p))), (2, .int (i32 (c)))] 0 = some (.ref 66)) rfl
  have gL1_1 : jGet L1 1 = some (.int (i32 (p))) := eL1 ▸ jg_ne (by decide) (rfl : jGet [(0, .ref 66), (1, .int (i32 (p))), (2, .int (i32 (c)))] 1 = some (.int (i32 (p)))) rfl
  have gL1_2 : jGet L1 2 = some (.int (i32 (c))) := eL1 ▸ jg_ne (by decide) (rfl : jGet [(0, .ref 66), (1, .int (i32 (p))), (2, .int (i32 (c)))] 2 = some (.int (i32 (c)))) rfl
  have gL1_3 : jGet L1 3 = some (.int (i32 (rw))) := eL1 ▸ jg_eq
  refine jx_ld (pc_q := 8) (l_q := L1) (st_q := [.ref 66]) rfl (jl_aloadn gL1_0) ?_
  refine jx_ld (pc_q := 9) (l_q := L1) (st_q := [.int (i32 (p)), .ref 66]) rfl (jl_iloadn gL1_1) ?_
  refine jx_ld (pc_q := 10) (l_q := L1) (st_q := [.int (i32 (c)), .int (i32 (p)), .ref 66]) rfl (jl_iloadn gL1_2) ?_
  refine jx_vr (pc_q := 13) (as := [.int (i32 (p)), .int (i32 (c))]) (st := []) rfl rfl rfl rfl ⟨rfl, rfl, Nat.le_of_ble_eq_true rfl⟩ rfl rfl (c_load (dd := d) (hd := by omega) (hW := hW) (p := p) (a := c)   (h_p := ⟨(Int.le_trans (by decide : (-2147483648 : Int) ≤ -2147483648) h_p.1), (Int.le_trans h_p.2 (by decide : (2147483647 : Int) ≤ 2147483647))⟩) (h_a := ⟨(Int.le_trans (by decide : (-2147483648 : Int) ≤ -2147483648) h_c.1), (Int.le_trans h_c.2 (by decide : (2147483647 : Int) ≤ 2147483647))⟩)  (p_0 := by omega) (p_1 := by omega)) (fun o V_q hq => ?_)
  obtain ⟨r2, rfl, rfl, b3, p4, -⟩ := hq
  refine .inr ⟨_, rfl, ?_⟩
  refine jx_ld (pc_q := 15) (l_q := jSto1 L1 4 (.int (i32 (r2)))) (st_q := []) rfl rfl ?_
  obtain ⟨L6, eL6⟩ : ∃ q, q = jSto1 L1 4 (.int (i32 (r2))) := ⟨_, rfl⟩
  rw [← eL6]
  have gL6_0 : jGet L6 0 = some (.ref 66) := eL6 ▸ jg_ne (by decide) gL1_0 rfl
  have gL6_1 : jGet L6 1 = some (.int (i32 (p))) := eL6 ▸ jg_ne (by decide) gL1_1 rfl
  have gL6_2 : jGet L6 2 = some (.int (i32 (c))) := eL6 ▸ jg_ne (by decide) gL1_2 rfl
  have gL6_3 : jGet L6 3 = some (.int (i32 (rw))) := eL6 ▸ jg_ne (by decide) gL1_3 rfl
  have gL6_4 : jGet L6 4 = some (.int (i32 (r2))) := eL6 ▸ jg_eq
  refine jx_ld (pc_q := 16) (l_q := L6) (st_q := [.ref 66]) rfl (jl_aloadn gL6_0) ?_
  refine jx_ld (pc_q := 17) (l_q := L6) (st_q := [.int (i32 (c)), .ref 66]) rfl (jl_iloadn gL6_2) ?_
  refine jx_vr (pc_q := 20) (as := [.int (i32 (c))]) (st := []) rfl rfl rfl rfl ⟨rfl, rfl, Nat.le_of_ble_eq_true rfl⟩ rfl rfl (c_isOutside (dd := d) (hd := by omega) (hW := hW) (a := c)   (h_a := ⟨(Int.le_trans (by decide : (-2147483648 : Int) ≤ -2147483648) h_c.1), (Int.le_trans h_c.2 (by decide : (2147483647 : Int) ≤ 2147483647))⟩)  ) (fun o V_q hq => ?_)
  obtain ⟨r7, rfl, rfl, b8, q9⟩ := hq
  refine .inr ⟨_, rfl, ?_⟩
  rcases q9 with ⟨rfl, a10, a11⟩ | ⟨rfl, a12⟩
  · have _q : True := trivial
    refine jx_if_eq (pc_q := 23) (tg := 43) rfl rfl rfl (by decide) (by decide) (fun h13 => ?_) (fun h13 => ?_)
    · have _q := h13
      exact absurd h13 (by omega)
    · have _q := h13
      refine jx_ld (pc_q := 24) (l_q := L6) (st_q := [.ref 66]) rfl (jl_aloadn gL6_0) ?_
      refine jx_ld (pc_q := 25) (l_q := L6) (st_q := [.int (i32 (c)), .ref 66]) rfl (jl_iloadn gL6_2) ?_
      refine jx_vr (pc_q := 28) (as := [.int (i32 (c))]) (st := []) rfl rfl rfl rfl ⟨rfl, rfl, Nat.le_of_ble_eq_true rfl⟩ rfl rfl (c_hasCome2 (dd := d) (hd := by omega) (hW := hW) (a := c) (it := it) (e_it := show G 111 = it from (e_it)) (im := im) (e_im := show G 110 = im from (e_im))  (h_a := ⟨(Int.le_trans (by decide : (-2147483648 : Int) ≤ -2147483648) h_c.1), (Int.le_trans h_c.2 (by decide : (2147483647 : Int) ≤ 2147483647))⟩)  ) (fun o V_q hq => ?_)
      obtain ⟨r14, rfl, rfl, b15, q16⟩ := hq
      refine .inr ⟨_, rfl, ?_⟩
      rcases q16 with ⟨rfl, a17⟩ | ⟨rfl, a18⟩
      · have _q : True := trivial
        refine jx_if_eq (pc_q := 31) (tg := 43) rfl rfl rfl (by decide) (by decide) (fun h19 => ?_) (fun h19 => ?_)
        · have _q := h19
          exact absurd h19 (by omega)
        · have _q := h19
          refine jx_ld (pc_q := 32) (l_q := L6) (st_q := [.ref 66]) rfl (jl_aloadn gL6_0) ?_
          refine jx_ld (pc_q := 33) (l_q := L6) (st_q := [.int (i32 (p)), .ref 66]) rfl (jl_iloadn gL6_1) ?_
          refine jx_ld (pc_q := 34) (l_q := L6) (st_q := [.int (i32 (rw)), .int (i32 (p)), .ref 66]) rfl (jl_iloadn gL6_3) ?_
          refine jx_ar (pc_q := 35) (st_q := [.int (i32 (3)), .int (i32 (rw)), .int (i32 (p)), .ref 66]) rfl rfl rfl rfl ?_
          refine jx_sub (pc_q := 36) rfl rfl ?_
          refine jx_ar (pc_q := 37) (st_q := [.int (i32 (3)), .int (i32 ((rw - 3))), .int (i32 (p)), .ref 66]) rfl rfl rfl rfl ?_
          refine jx_vr (pc_q := 40) (as := [.int (i32 (p)), .int (i32 ((rw - 3))), .int (i32 (3))]) (st := []) rfl rfl rfl rfl ⟨rfl, rfl, Nat.le_of_ble_eq_true rfl⟩ rfl rfl (c_store (dd := d) (hd := by omega) (hW := hW) (p := p) (a := (rw - 3)) (v := 3)   (h_p := ⟨(Int.le_trans (by decide : (-2147483648 : Int) ≤ -2147483648) h_p.1), (Int.le_trans h_p.2 (by decide : (2147483647 : Int) ≤ 2147483647))⟩) (h_a := ⟨(by omega), (by omega)⟩) (h_v := ⟨(by decide), (by decide)⟩)  (p_0 := by omega) (p_1 := by omega)) (fun o V_q hq => ?_)
          obtain ⟨G20, A21, rfl, rfl, hW22, hF23, p24, -⟩ := hq
          have hF26 := Fr_tr hF0 hF23 (Fr_sub (by decide)) (Fr_sub (by decide))
          refine .inl ⟨rfl, ?_⟩
          refine jx_go (tg := 84) rfl rfl ?_
          refine jx_rt (v := none) rfl rfl rfl rfl rfl rfl ?_
          exact ⟨_, _, rfl, rfl, hW22, hF26, (.inl ⟨by omega, by omega, a17, by rw [hrw]; exact p24⟩), trivial⟩
      · have _q : True := trivial
        refine jx_if_eq (pc_q := 31) (tg := 43) rfl rfl rfl (by decide) (by decide) (fun h27 => ?_) (fun h27 => ?_)
        · have _q := h27
          refine jx_ld (pc_q := 45) (l_q := L6) (st_q := [.int (i32 (r2))]) rfl (jl_iload gL6_4) ?_
          refine jx_ar (pc_q := 46) (st_q := [.int (i32 (-1)), .int (i32 (r2))]) rfl rfl rfl rfl ?_
          refine jx_icmp_ne (pc_q := 49) (tg := 64) rfl rfl rfl (Int.le_trans (by decide : (-2147483648 : Int) ≤ -2147483648) b3.1) (Int.le_trans b3.2 (by decide : (2147483647 : Int) ≤ 2147483647)) (by decide) (by decide) (fun h28 => ?_) (fun h28 => ?_)
          · have _q := h28
            refine jx_ld (pc_q := 66) (l_q := L6) (st_q := [.int (i32 (r2))]) rfl (jl_iload gL6_4) ?_
            refine jx_ld (pc_q := 67) (l_q := L6) (st_q := [.ref 66, .int (i32 (r2))]) rfl (jl_aloadn gL6_0) ?_
            refine jr_get (pc_q := 70) (i := 97) (v := .ref 133) rfl rfl (by decide) rfl rfl ?_
            refine jx_ld (pc_q := 71) (l_q := L6) (st_q := [.int (i32 (p)), .ref 133, .int (i32 (r2))]) rfl (jl_iloadn gL6_1) ?_
            have b29 : (-2147483648 : Int) ≤ A 66 (p).toNat ∧ A 66 (p).toNat ≤ 2147483647 := hW.2 66 _
            refine jr_ldv (pc_q := 72) (i := 66) (m := 6) (z := p) (y := A 66 (p).toNat) rfl (by decide) rfl (by decide) (by omega) (by omega) rfl (show A 66 (p).toNat = A 66 (p).toNat from rfl) ?_
            refine jx_icmp_eq (pc_q := 75) (tg := 84) rfl rfl rfl (Int.le_trans (by decide : (-2147483648 : Int) ≤ -2147483648) b3.1) (Int.le_trans b3.2 (by decide : (2147483647 : Int) ≤ 2147483647)) (Int.le_trans (by decide : (-2147483648 : Int) ≤ -2147483648) b29.1) (Int.le_trans b29.2 (by decide : (2147483647 : Int) ≤ 2147483647)) (fun h30 => ?_) (fun h30 => ?_)
            · have _q := h30
              refine jx_rt (v := none) rfl rfl rfl rfl rfl rfl ?_
              exact ⟨_, _, rfl, rfl, hW, hF0, (.inr ⟨(fun w => absurd w.2.2 a18), .inr (.inl ⟨by rw [← p4]; omega, by rw [← p4]; omega, rfl⟩)⟩), trivial⟩
            · have _q := h30
              refine jx_ld (pc_q := 76) (l_q := L6) (st_q := [.ref 66]) rfl (jl_aloadn gL6_0) ?_
              refine jx_ld (pc_q := 77) (l_q := L6) (st_q := [.int (i32 (p)), .ref 66]) rfl (jl_iloadn gL6_1) ?_
              refine jx_ld (pc_q := 78) (l_q := L6) (st_q := [.int (i32 (rw)), .int (i32 (p)), .ref 66]) rfl (jl_iloadn gL6_3) ?_
              refine jx_ar (pc_q := 79) (st_q := [.int (i32 (3)), .int (i32 (rw)), .int (i32 (p)), .ref 66]) rfl rfl rfl rfl ?_
              refine jx_sub (pc_q := 80) rfl rfl ?_
              refine jx_ar (pc_q := 81) (st_q := [.int (i32 (3)), .int (i32 ((rw - 3))), .int (i32 (p)), .ref 66]) rfl rfl rfl rfl ?_
              refine jx_vr (pc_q := 84) (as := [.int (i32 (p)), .int (i32 ((rw - 3))), .int (i32 (3))]) (st := []) rfl rfl rfl rfl ⟨rfl, rfl, Nat.le_of_ble_eq_true rfl⟩ rfl rfl (c_store (dd := d) (hd := by omega) (hW := hW) (p := p) (a := (rw - 3)) (v := 3)   (h_p := ⟨(Int.le_trans (by decide : (-2147483648 : Int) ≤ -2147483648) h_p.1), (Int.le_trans h_p.2 (by decide : (2147483647 : Int) ≤ 2147483647))⟩) (h_a := ⟨(by omega), (by omega)⟩) (h_v := ⟨(by decide), (by decide)⟩)  (p_0 := by omega) (p_1 := by omega)) (fun o V_q hq => ?_)
              obtain ⟨G31, A32, rfl, rfl, hW33, hF34, p35, -⟩ := hq
              have hF37 := Fr_tr hF0 hF34 (Fr_sub (by decide)) (Fr_sub (by decide))
              refine .inl ⟨rfl, ?_⟩
              refine jx_rt (v := none) rfl rfl rfl rfl rfl rfl ?_
              exact ⟨_, _, rfl, rfl, hW33, hF37, (by first | exact .inr ⟨(fun w => absurd w.2.2 a18), .inl ⟨by rw [← p4]; omega, p35⟩⟩ | exact .inr ⟨(fun w => absurd w.2.2 a18), .inr (.inr ⟨by rw [← p4]; omega, by rw [← p4]; omega, by rw [hrw]; exact p35⟩)⟩), trivial⟩
          · have _q := h28
            refine jx_ld (pc_q := 50) (l_q := L6) (st_q := [.ref 66]) rfl (jl_aloadn gL6_0) ?_
            refine jx_ld (pc_q := 51) (l_q := L6) (st_q := [.int (i32 (p)), .ref 66]) rfl (jl_iloadn gL6_1) ?_
            refine jx_ld (pc_q := 52) (l_q := L6) (st_q := [.int (i32 (c)), .int (i32 (p)), .ref 66]) rfl (jl_iloadn gL6_2) ?_
            refine jx_ld (pc_q := 53) (l_q := L6) (st_q := [.ref 66, .int (i32 (c)), .int (i32 (p)), .ref 66]) rfl (jl_aloadn gL6_0) ?_
            refine jr_get (pc_q := 56) (i := 97) (v := .ref 133) rfl rfl (by decide) rfl rfl ?_
            refine jx_ld (pc_q := 57) (l_q := L6) (st_q := [.int (i32 (p)), .ref 133, .int (i32 (c)), .int (i32 (p)), .ref 66]) rfl (jl_iloadn gL6_1) ?_
            have b38 : (-2147483648 : Int) ≤ A 66 (p).toNat ∧ A 66 (p).toNat ≤ 2147483647 := hW.2 66 _
            refine jr_ldv (pc_q := 58) (i := 66) (m := 6) (z := p) (y := A 66 (p).toNat) rfl (by decide) rfl (by decide) (by omega) (by omega) rfl (show A 66 (p).toNat = A 66 (p).toNat from rfl) ?_
            refine jx_vr (pc_q := 61) (as := [.int (i32 (p)), .int (i32 (c)), .int (i32 (A 66 (p).toNat))]) (st := []) rfl rfl rfl rfl ⟨rfl, rfl, Nat.le_of_ble_eq_true rfl⟩ rfl rfl (c_store (dd := d) (hd := by omega) (hW := hW) (p := p) (a := c) (v := A 66 (p).toNat)   (h_p := ⟨(Int.le_trans (by decide : (-2147483648 : Int) ≤ -2147483648) h_p.1), (Int.le_trans h_p.2 (by decide : (2147483647 : Int) ≤ 2147483647))⟩) (h_a := ⟨(Int.le_trans (by decide : (-2147483648 : Int) ≤ -2147483648) h_c.1), (Int.le_trans h_c.2 (by decide : (2147483647 : Int) ≤ 2147483647))⟩) (h_v := ⟨(Int.le_trans (by decide : (-2147483648 : Int) ≤ -2147483648) b38.1), (Int.le_trans b38.2 (by decide : (2147483647 : Int) ≤ 2147483647))⟩)  (p_0 := by omega) (p_1 := by omega)) (fun o V_q hq => ?_)
            obtain ⟨G39, A40, rfl, rfl, hW41, hF42, p43, -⟩ := hq
            have hF45 := Fr_tr hF0 hF42 (Fr_sub (by decide)) (Fr_sub (by decide))
            refine .inl ⟨rfl, ?_⟩
            refine jx_go (tg := 84) rfl rfl ?_
            refine jx_rt (v := none) rfl rfl rfl rfl rfl rfl ?_
            exact ⟨_, _, rfl, rfl, hW41, hF45, (by first | exact .inr ⟨(fun w => absurd w.2.2 a18), .inl ⟨by rw [← p4]; omega, p43⟩⟩ | exact .inr ⟨(fun w => absurd w.2.2 a18), .inr (.inr ⟨by rw [← p4]; omega, by rw [← p4]; omega, by rw [hrw]; exact p43⟩)⟩), trivial⟩
        · have _q := h27
          exact absurd h27 (by omega)
  · have _q : True := trivial
    refine jx_if_eq (pc_q := 23) (tg := 43) rfl rfl rfl (by decide) (by decide) (fun h46 => ?_) (fun h46 => ?_)
    · have _q := h46
      refine jx_ld (pc_q := 45) (l_q := L6) (st_q := [.int (i32 (r2))]) rfl (jl_iload gL6_4) ?_
      refine jx_ar (pc_q := 46) (st_q := [.int (i32 (-1)), .int (i32 (r2))]) rfl rfl rfl rfl ?_
      refine jx_icmp_ne (pc_q := 49) (tg := 64) rfl rfl rfl (Int.le_trans (by decide : (-2147483648 : Int) ≤ -2147483648) b3.1) (Int.le_trans b3.2 (by decide : (2147483647 : Int) ≤ 2147483647)) (by decide) (by decide) (fun h47 => ?_) (fun h47 => ?_)
      · have _q := h47
        refine jx_ld (pc_q := 66) (l_q := L6) (st_q := [.int (i32 (r2))]) rfl (jl_iload gL6_4) ?_
        refine jx_ld (pc_q := 67) (l_q := L6) (st_q := [.ref 66, .int (i32 (r2))]) rfl (jl_aloadn gL6_0) ?_
        refine jr_get (pc_q := 70) (i := 97) (v := .ref 133) rfl rfl (by decide) rfl rfl ?_
        refine jx_ld (pc_q := 71) (l_q := L6) (st_q := [.int (i32 (p)), .ref 133, .int (i32 (r2))]) rfl (jl_iloadn gL6_1) ?_
        have b48 : (-2147483648 : Int) ≤ A 66 (p).toNat ∧ A 66 (p).toNat ≤ 2147483647 := hW.2 66 _
        refine jr_ldv (pc_q := 72) (i := 66) (m := 6) (z := p) (y := A 66 (p).toNat) rfl (by decide) rfl (by decide) (by omega) (by omega) rfl (show A 66 (p).toNat = A 66 (p).toNat from rfl) ?_
        refine jx_icmp_eq (pc_q := 75) (tg := 84) rfl rfl rfl (Int.le_trans (by decide : (-2147483648 : Int) ≤ -2147483648) b3.1) (Int.le_trans b3.2 (by decide : (2147483647 : Int) ≤ 2147483647)) (Int.le_trans (by decide : (-2147483648 : Int) ≤ -2147483648) b48.1) (Int.le_trans b48.2 (by decide : (2147483647 : Int) ≤ 2147483647)) (fun h49 => ?_) (fun h49 => ?_)
        · have _q := h49
          refine jx_rt (v := none) rfl rfl rfl rfl rfl rfl ?_
          exact ⟨_, _, rfl, rfl, hW, hF0, (.inr ⟨(fun w => by have w1 := w.1; have w2 := w.2.1; omega), .inr (.inl ⟨by rw [← p4]; omega, by rw [← p4]; omega, rfl⟩)⟩), trivial⟩
        · have _q := h49
          refine jx_ld (pc_q := 76) (l_q := L6) (st_q := [.ref 66]) rfl (jl_aloadn gL6_0) ?_
          refine jx_ld (pc_q := 77) (l_q := L6) (st_q := [.int (i32 (p)), .ref 66]) rfl (jl_iloadn gL6_1) ?_
          refine jx_ld (pc_q := 78) (l_q := L6) (st_q := [.int (i32 (rw)), .int (i32 (p)), .ref 66]) rfl (jl_iloadn gL6_3) ?_
          refine jx_ar (pc_q := 79) (st_q := [.int (i32 (3)), .int (i32 (rw)), .int (i32 (p)), .ref 66]) rfl rfl rfl rfl ?_
          refine jx_sub (pc_q := 80) rfl rfl ?_
          refine jx_ar (pc_q := 81) (st_q := [.int (i32 (3)), .int (i32 ((rw - 3))), .int (i32 (p)), .ref 66]) rfl rfl rfl rfl ?_
          refine jx_vr (pc_q := 84) (as := [.int (i32 (p)), .int (i32 ((rw - 3))), .int (i32 (3))]) (st := []) rfl rfl rfl rfl ⟨rfl, rfl, Nat.le_of_ble_eq_true rfl⟩ rfl rfl (c_store (dd := d) (hd := by omega) (hW := hW) (p := p) (a := (rw - 3)) (v := 3)   (h_p := ⟨(Int.le_trans (by decide : (-2147483648 : Int) ≤ -2147483648) h_p.1), (Int.le_trans h_p.2 (by decide : (2147483647 : Int) ≤ 2147483647))⟩) (h_a := ⟨(by omega), (by omega)⟩) (h_v := ⟨(by decide), (by decide)⟩)  (p_0 := by omega) (p_1 := by omega)) (fun o V_q hq => ?_)
          obtain ⟨G50, A51, rfl, rfl, hW52, hF53, p54, -⟩ := hq
          have hF56 := Fr_tr hF0 hF53 (Fr_sub (by decide)) (Fr_sub (by decide))
          refine .inl ⟨rfl, ?_⟩
          refine jx_rt (v := none) rfl rfl rfl rfl rfl rfl ?_
          exact ⟨_, _, rfl, rfl, hW52, hF56, (by first | exact .inr ⟨(fun w => by have w1 := w.1; have w2 := w.2.1; omega), .inl ⟨by rw [← p4]; omega, p54⟩⟩ | exact .inr ⟨(fun w => by have w1 := w.1; have w2 := w.2.1; omega), .inr (.inr ⟨by rw [← p4]; omega, by rw [← p4]; omega, by rw [hrw]; exact p54⟩)⟩), trivial⟩
      · have _q := h47
        refine jx_ld (pc_q := 50) (l_q := L6) (st_q := [.ref 66]) rfl (jl_aloadn gL6_0) ?_
        refine jx_ld (pc_q := 51) (l_q := L6) (st_q := [.int (i32 (p)), .ref 66]) rfl (jl_iloadn gL6_1) ?_
        refine jx_ld (pc_q := 52) (l_q := L6) (st_q := [.int (i32 (c)), .int (i32 (p)), .ref 66]) rfl (jl_iloadn gL6_2) ?_
        refine jx_ld (pc_q := 53) (l_q := L6) (st_q := [.ref 66, .int (i32 (c)), .int (i32 (p)), .ref 66]) rfl (jl_aloadn gL6_0) ?_
        refine jr_get (pc_q := 56) (i := 97) (v := .ref 133) rfl rfl (by decide) rfl rfl ?_
        refine jx_ld (pc_q := 57) (l_q := L6) (st_q := [.int (i32 (p)), .ref 133, .int (i32 (c)), .int (i32 (p)), .ref 66]) rfl (jl_iloadn gL6_1) ?_
        have b57 : (-2147483648 : Int) ≤ A 66 (p).toNat ∧ A 66 (p).toNat ≤ 2147483647 := hW.2 66 _
        refine jr_ldv (pc_q := 58) (i := 66) (m := 6) (z := p) (y := A 66 (p).toNat) rfl (by decide) rfl (by decide) (by omega) (by omega) rfl (show A 66 (p).toNat = A 66 (p).toNat from rfl) ?_
        refine jx_vr (pc_q := 61) (as := [.int (i32 (p)), .int (i32 (c)), .int (i32 (A 66 (p).toNat))]) (st := []) rfl rfl rfl rfl ⟨rfl, rfl, Nat.le_of_ble_eq_true rfl⟩ rfl rfl (c_store (dd := d) (hd := by omega) (hW := hW) (p := p) (a := c) (v := A 66 (p).toNat)   (h_p := ⟨(Int.le_trans (by decide : (-2147483648 : Int) ≤ -2147483648) h_p.1), (Int.le_trans h_p.2 (by decide : (2147483647 : Int) ≤ 2147483647))⟩) (h_a := ⟨(Int.le_trans (by decide : (-2147483648 : Int) ≤ -2147483648) h_c.1), (Int.le_trans h_c.2 (by decide : (2147483647 : Int) ≤ 2147483647))⟩) (h_v := ⟨(Int.le_trans (by decide : (-2147483648 : Int) ≤ -2147483648) b57.1), (Int.le_trans b57.2 (by decide : (2147483647 : Int) ≤ 2147483647))⟩)  (p_0 := by omega) (p_1 := by omega)) (fun o V_q hq => ?_)
        obtain ⟨G58, A59, rfl, rfl, hW60, hF61, p62, -⟩ := hq
        have hF64 := Fr_tr hF0 hF61 (Fr_sub (by decide)) (Fr_sub (by decide))
        refine .inl ⟨rfl, ?_⟩
        refine jx_go (tg := 84) rfl rfl ?_
        refine jx_rt (v := none) rfl rfl rfl rfl rfl rfl ?_
        exact ⟨_, _, rfl, rfl, hW60, hF64, (by first | exact .inr ⟨(fun w => by have w1 := w.1; have w2 := w.2.1; omega), .inl ⟨by rw [← p4]; omega, p62⟩⟩ | exact .inr ⟨(fun w => by have w1 := w.1; have w2 := w.2.1; omega), .inr (.inr ⟨by rw [← p4]; omega, by rw [← p4]; omega, by rw [hrw]; exact p62⟩)⟩), trivial⟩
    · have _q := h46
      exact absurd h46 (by omega)
