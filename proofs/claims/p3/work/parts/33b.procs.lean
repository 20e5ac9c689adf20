theorem LT_at {G : Nat → Int} {A : Nat → Nat → Int} {z li lf le : Int} (h : LT G A) (h1 : G 3 = li) (h2 : A 3 z.toNat = lf) (h3 : A 4 z.toNat = le) (h0 : 0 ≤ z) (hz : z < li) : lf < le := by
  have := (h z.toNat (by omega)).1
  omega
theorem LT_nx {G : Nat → Int} {A : Nat → Nat → Int} {z y li le lf : Int} (h : LT G A) (h1 : G 3 = li) (h2 : A 4 z.toNat = le) (h3 : A 3 y.toNat = lf) (hy : y = z + 1) (h0 : 0 ≤ z) (hz : y < li) : le < lf := by
  have := (h z.toNat (by omega)).2 (by omega)
  rw [show z.toNat + 1 = y.toNat by omega] at this
  omega
set_option maxRecDepth 20000 in
set_option maxHeartbeats 4000000 in
theorem c_readChildren_f {X : jX} {zz : Int} {dd : Nat} {c0 c1 : jC} {G : Nat → Int} {A : Nat → Nat → Int} {T : jH} {n lv least mo : Int} {fk : Int} (hd : 3 ≤ dd) (hW : Wk G A) (e_fk : G 16 = fk) (h_n : (-2147483648 : Int) ≤ n ∧ n ≤ 2147483647) (h_lv : (-2147483648 : Int) ≤ lv ∧ lv ≤ 2147483647) (h_least : (-2147483648 : Int) ≤ least ∧ least ≤ 2147483647) (h_mo : (-2147483648 : Int) ≤ mo ∧ mo ≤ 2147483647) (p_0 : 0 ≤ n ∧ n ≤ 6998) (p_1 : 0 ≤ lv ∧ lv ≤ 40) (p_2 : 1 ≤ fk) (p_3 : zz ≤ n) : wk X dd 296 [.ref 66, .int (i32 n), .int (i32 lv), .int (i32 least), .int (i32 mo)] (rV c0 c1 G A T) (fun o V_q => ∃ (G_q : Nat → Int) (A_q : Nat → Nat → Int) (fk2 : Int), V_q = rV c0 c1 G_q A_q T ∧ o = .inl none ∧ Wk G_q A_q ∧ Fr [16, 17, 18] [18] G A G_q A_q ∧ Pf zz A A_q ∧ G_q 16 = fk2 ∧ (1 ≤ fk2) ∧ True) := by
  obtain ⟨d, rfl⟩ : ∃ d, dd = d + 1 := ⟨dd - 1, by omega⟩
  refine wk_of (e := jm296) rfl (Nat.le_of_ble_eq_true rfl) ?_
  show wj X d jm296 (0, [(0, .ref 66), (1, .int (i32 (n))), (2, .int (i32 (lv))), (3, .int (i32 (least))), (4, .int (i32 (mo)))], [], rV c0 c1 G A T) _
  have hF0 : Fr [16, 17, 18] [18] G A G A := Fr_rf
  have hP0 : Pf zz A A := Pf_rf
  have b_fk : (0 : Int) ≤ fk ∧ fk ≤ 6 := e_fk ▸ hW.1 16
  refine jx_ar (pc_q := 1) (st_q := [.int (i32 (0))]) rfl rfl rfl rfl ?_
  refine jx_ld (pc_q := 3) (l_q := jSto1 [(0, .ref 66), (1, .int (i32 (n))), (2, .int (i32 (lv))), (3, .int (i32 (least))), (4, .int (i32 (mo)))] 5 (.int (i32 (0)))) (st_q := []) rfl rfl ?_
  obtain ⟨L1, eL1⟩ : ∃ q, q = jSto1 [(0, .ref 66), (1, .int (i32 (n))), (2, .int (i32 (lv))), (3, .int (i32 (least))), (4, .int (i32 (mo)))] 5 (.int (i32 (0))) := ⟨_, rfl⟩
  rw [← eL1]
  have gL1_0 : jGet L1 0 = some (.ref 66) := eL1 ▸ jg_ne (by decide) (rfl : jGet [(0, .ref 66), (1, .int (i32 (n))), (2, .int (i32 (lv))), (3, .int (i32 (least))), (4, .int (i32 (mo)))] 0 = some (.ref 66)) rfl
  have gL1_1 : jGet L1 1 = some (.int (i32 (n))) := eL1 ▸ jg_ne (by decide) (rfl : jGet [(0, .ref 66), (1, .int (i32 (n))), (2, .int (i32 (lv))), (3, .int (i32 (least))), (4, .int (i32 (mo)))] 1 = some (.int (i32 (n)))) rfl
  have gL1_2 : jGet L1 2 = some (.int (i32 (lv))) := eL1 ▸ jg_ne (by decide) (rfl : jGet [(0, .ref 66), (1, .int (i32 (n))), (2, .int (i32 (lv))), (3, .int (i32 (least))), (4, .int (i32 (mo)))] 2 = some (.int (i32 (lv)))) rfl
  have gL1_3 : jGet L1 3 = some (.int (i32 (least))) := eL1 ▸ jg_ne (by decide) (rfl : jGet [(0, .ref 66), (1, .int (i32 (n))), (2, .int (i32 (lv))), (3, .int (i32 (least))), (4, .int (i32 (mo)))] 3 = some (.int (i32 (least)))) rfl
  have gL1_4 : jGet L1 4 = some (.int (i32 (mo))) := eL1 ▸ jg_ne (by decide) (rfl : jGet [(0, .ref 66), (1, .int (i32 (n))), (2, .int (i32 (lv))), (3, .int (i32 (least))), (4, .int (i32 (mo)))] 4 = some (.int (i32 (mo)))) rfl
  have gL1_5 : jGet L1 5 = some (.int (i32 (0))) := eL1 ▸ jg_eq
  refine jx_ar (pc_q := 4) (st_q := [.int (i32 (0))]) rfl rfl rfl rfl ?_
  refine jx_ld (pc_q := 6) (l_q := jSto1 L1 6 (.int (i32 (0)))) (st_q := []) rfl rfl ?_
  obtain ⟨L2, eL2⟩ : ∃ q, q = jSto1 L1 6 (.int (i32 (0))) := ⟨_, rfl⟩
  rw [← eL2]
  have gL2_0 : jGet L2 0 = some (.ref 66) := eL2 ▸ jg_ne (by decide) gL1_0 rfl
  have gL2_1 : jGet L2 1 = some (.int (i32 (n))) := eL2 ▸ jg_ne (by decide) gL1_1 rfl
  have gL2_2 : jGet L2 2 = some (.int (i32 (lv))) := eL2 ▸ jg_ne (by decide) gL1_2 rfl
  have gL2_3 : jGet L2 3 = some (.int (i32 (least))) := eL2 ▸ jg_ne (by decide) gL1_3 rfl
  have gL2_4 : jGet L2 4 = some (.int (i32 (mo))) := eL2 ▸ jg_ne (by decide) gL1_4 rfl
  have gL2_5 : jGet L2 5 = some (.int (i32 (0))) := eL2 ▸ jg_ne (by decide) gL1_5 rfl
  have gL2_6 : jGet L2 6 = some (.int (i32 (0))) := eL2 ▸ jg_eq
  refine jx_ld (pc_q := 7) (l_q := L2) (st_q := [.ref 66]) rfl (jl_aloadn gL2_0) ?_
  refine jx_ld (pc_q := 8) (l_q := L2) (st_q := [.int (i32 (lv)), .ref 66]) rfl (jl_iloadn gL2_2) ?_
  have b3 : (0 : Int) ≤ G 9 ∧ G 9 ≤ 3000 := hW.1 9
  have b4 : (0 : Int) ≤ G 3 ∧ G 3 ≤ 3000 := hW.1 3
  have b5 : (-1 : Int) ≤ A 5 (G 9).toNat ∧ A 5 (G 9).toNat ≤ 15 := hW.2 5 _
  refine jx_vr (pc_q := 11) (as := [.int (i32 (lv))]) (st := []) rfl rfl rfl rfl ⟨rfl, rfl, Nat.le_of_ble_eq_true rfl⟩ rfl rfl (c_isBelow (dd := d) (hd := by omega) (hW := hW) (lv := lv) (ln := G 9) (e_ln := show G 9 = G 9 from rfl) (li := G 3) (e_li := show G 3 = G 3 from rfl) (fk := fk) (e_fk := show G 16 = fk from (e_fk)) (ll := A 5 (G 9).toNat) (e_ll := show A 5 (G 9).toNat = A 5 (G 9).toNat from rfl)  (h_lv := ⟨(Int.le_trans (by decide : (-2147483648 : Int) ≤ -2147483648) h_lv.1), (Int.le_trans h_lv.2 (by decide : (2147483647 : Int) ≤ 2147483647))⟩)  (p_0 := by omega)) (fun o V_q hq => ?_)
  obtain ⟨G6, A7, r8, fk2_9, rfl, rfl, hW10, hF11, b12, e13, q14⟩ := hq
  have hF15 := Fr_tr hF0 hF11 (Fr_sub (by decide)) (Fr_sub (by decide))
  have hP16 := Pf_f hP0 hF11 (by decide)
  have bfk2_9 : (0 : Int) ≤ fk2_9 ∧ fk2_9 ≤ 6 := e13 ▸ hW10.1 16
  refine .inr ⟨_, rfl, ?_⟩
  rcases q14 with ⟨rfl, a17, a18, a19, a20⟩ | ⟨rfl, a21⟩ | ⟨rfl, a22, a23, a24⟩
  · have _q : True := trivial
    exfalso
    omega
  · have _q : True := trivial
    refine jx_if_eq (pc_q := 14) (tg := 98) rfl rfl rfl (by decide) (by decide) (fun h25 => ?_) (fun h25 => ?_)
    · have _q := h25
      refine jx_ld (pc_q := 99) (l_q := L2) (st_q := [.ref 66]) rfl (jl_aloadn gL2_0) ?_
      refine jx_vr (pc_q := 102) (as := []) (st := []) rfl rfl rfl rfl ⟨rfl, rfl, Nat.le_of_ble_eq_true rfl⟩ rfl rfl (c_bad (dd := d) (hd := by omega) (hW := hW10)  (fk := fk2_9) (e_fk := show G6 16 = fk2_9 from (e13))    ) (fun o V_q hq => ?_)
      obtain ⟨r26, rfl, rfl, b27, q28⟩ := hq
      refine .inr ⟨_, rfl, ?_⟩
      rcases q28 with ⟨rfl, a29⟩ | ⟨rfl, a30⟩
      · have _q : True := trivial
        refine jx_if_ne (pc_q := 105) (tg := 119) rfl rfl rfl (by decide) (by decide) (fun h31 => ?_) (fun h31 => ?_)
        · have _q := h31
          refine jx_ld (pc_q := 120) (l_q := L2) (st_q := [.ref 66]) rfl (jl_aloadn gL2_0) ?_
          refine jr_get (pc_q := 123) (i := 35) (v := .ref 85) rfl rfl (by decide) rfl rfl ?_
          refine jx_ld (pc_q := 124) (l_q := L2) (st_q := [.int (i32 (n)), .ref 85]) rfl (jl_iloadn gL2_1) ?_
          refine jx_ld (pc_q := 126) (l_q := L2) (st_q := [.int (i32 (0)), .int (i32 (n)), .ref 85]) rfl (jl_iload gL2_6) ?_
          refine jr_st (pc_q := 127) (i := 18) (m := 7000) (z := n) (y := 0) rfl (by decide) rfl (by decide) (by omega) (by omega) rfl ?_
          have hW33 : Wk G6 (uA A7 18 (n).toNat (0)) := Wk_a hW10 (show (-2147483648 : Int) ≤ 0 by omega) (show 0 ≤ (2147483647 : Int) by omega)
          have hF34 := Fr_a (z := 0) (k := 18) (n := (n).toNat) hF15 (by decide)
          obtain ⟨A32, eA32⟩ : ∃ q, q = uA A7 18 (n).toNat (0) := ⟨_, rfl⟩
          rw [← eA32]
          rw [← eA32] at hW33 hF34
          have q35 : A32 18 (n).toNat = 0 := by rw [eA32]; exact uA_eq
          have hP36 : Pf zz A A32 := eA32 ▸ Pf_a hP16 (z := n) (by omega) (by omega)
          refine jx_rt (v := none) rfl rfl rfl rfl rfl rfl ?_
          exact ⟨_, _, fk2_9, rfl, rfl, hW33, hF34, hP36, (e13), by omega, trivial⟩
        · have _q := h31
          exact absurd h31 (by omega)
      · have _q : True := trivial
        exfalso
        omega
    · have _q := h25
      exact absurd h25 (by omega)
  · have _q : True := trivial
    exfalso
    omega
set_option maxRecDepth 20000 in
set_option maxHeartbeats 4000000 in
theorem c_readIndexed_f {X : jX} {dd : Nat} {c0 c1 : jC} {G : Nat → Int} {A : Nat → Nat → Int} {T : jH} {n lv : Int} {fk : Int} (hd : 2 ≤ dd) (hW : Wk G A) (e_fk : G 16 = fk) (h_n : (-2147483648 : Int) ≤ n ∧ n ≤ 2147483647) (h_lv : (-2147483648 : Int) ≤ lv ∧ lv ≤ 2147483647) (p_0 : 1 ≤ fk) : wk X dd 298 [.ref 66, .int (i32 n), .int (i32 lv)] (rV c0 c1 G A T) (fun o V_q => ∃ (r : Int), V_q = rV c0 c1 G A T ∧ o = .inl (some (.int (i32 r))) ∧ ((-2147483648 : Int) ≤ r ∧ r ≤ 2147483647) ∧ (r = 0) ∧ True) := by
  obtain ⟨d, rfl⟩ : ∃ d, dd = d + 1 := ⟨dd - 1, by omega⟩
  refine wk_of (e := jm298) rfl (Nat.le_of_ble_eq_true rfl) ?_
  show wj X d jm298 (0, [(0, .ref 66), (1, .int (i32 (n))), (2, .int (i32 (lv)))], [], rV c0 c1 G A T) _
  have b_fk : (0 : Int) ≤ fk ∧ fk ≤ 6 := e_fk ▸ hW.1 16
  refine jx_ld (pc_q := 1) (l_q := [(0, .ref 66), (1, .int (i32 (n))), (2, .int (i32 (lv)))]) (st_q := [.ref 66]) rfl (jl_aloadn rfl) ?_
  refine jx_vr (pc_q := 4) (as := []) (st := []) rfl rfl rfl rfl ⟨rfl, rfl, Nat.le_of_ble_eq_true rfl⟩ rfl rfl (c_bad (dd := d) (hd := by omega) (hW := hW)  (fk := fk) (e_fk := show G 16 = fk from (e_fk))    ) (fun o V_q hq => ?_)
  obtain ⟨r1, rfl, rfl, b2, q3⟩ := hq
  refine .inr ⟨_, rfl, ?_⟩
  rcases q3 with ⟨rfl, a4⟩ | ⟨rfl, a5⟩
  · have _q : True := trivial
    refine jx_if_eq (pc_q := 7) (tg := 9) rfl rfl rfl (by decide) (by decide) (fun h6 => ?_) (fun h6 => ?_)
    · have _q := h6
      exact absurd h6 (by omega)
    · have _q := h6
      refine jx_ar (pc_q := 8) (st_q := [.int (i32 (0))]) rfl rfl rfl rfl ?_
      refine jx_rt (v := some (.int (i32 (0)))) rfl rfl rfl rfl rfl rfl ?_
      exact ⟨_, rfl, rfl, by omega, by omega, trivial⟩
  · have _q : True := trivial
    exfalso
    omega
