set_option maxRecDepth 20000 in
set_option maxHeartbeats 4000000 in
theorem c_addTo {X : jX} {zz : Int} {dd : Nat} {c0 c1 : jC} {G : Nat → Int} {A : Nat → Nat → Int} {T : jH} {n last one : Int} (hd : 1 ≤ dd) (hW : Wk G A) (h_n : (-2147483648 : Int) ≤ n ∧ n ≤ 2147483647) (h_last : (-2147483648 : Int) ≤ last ∧ last ≤ 2147483647) (h_one : (-2147483648 : Int) ≤ one ∧ one ≤ 2147483647) (p_0 : 0 ≤ n ∧ n ≤ 6998) (p_1 : 0 ≤ last ∧ last ≤ 6998) (p_2 : zz ≤ n) (p_3 : last = 0 ∨ zz ≤ last) : wk X dd 300 [.ref 66, .int (i32 n), .int (i32 last), .int (i32 one)] (rV c0 c1 G A T) (fun o V' => ∃ (G' : Nat → Int) (A' : Nat → Nat → Int), V' = rV c0 c1 G' A' T ∧ o = .inl none ∧ Wk G' A' ∧ Fr [] [21, 22] G A G' A' ∧ Pf zz A A' ∧ True) := by
  obtain ⟨d, rfl⟩ : ∃ d, dd = d + 1 := ⟨dd - 1, by omega⟩
  refine wk_of (e := jm300) rfl (Nat.le_of_ble_eq_true rfl) ?_
  show wj X d jm300 (0, [(0, .ref 66), (1, .int (i32 (n))), (2, .int (i32 (last))), (3, .int (i32 (one)))], [], rV c0 c1 G A T) _
  have hF0 : Fr [] [21, 22] G A G A := Fr_rf
  have hP0 : Pf zz A A := Pf_rf
  refine jx_ld (pc' := 1) (l' := [(0, .ref 66), (1, .int (i32 (n))), (2, .int (i32 (last))), (3, .int (i32 (one)))]) (st' := [.int (i32 (last))]) rfl (jl_iloadn rfl) ?_
  refine jx_if_ne (pc' := 4) (tg := 14) rfl rfl rfl (Int.le_trans (by decide : (-2147483648 : Int) ≤ -2147483648) h_last.1) (Int.le_trans h_last.2 (by decide : (2147483647 : Int) ≤ 2147483647)) (fun h1 => ?_) (fun h1 => ?_)
  · have _q := h1
    refine jx_ld (pc' := 15) (l' := [(0, .ref 66), (1, .int (i32 (n))), (2, .int (i32 (last))), (3, .int (i32 (one)))]) (st' := [.ref 66]) rfl (jl_aloadn rfl) ?_
    refine jr_get (pc' := 18) (i := 39) (v := .ref 89) rfl rfl (by decide) rfl rfl ?_
    refine jx_ld (pc' := 19) (l' := [(0, .ref 66), (1, .int (i32 (n))), (2, .int (i32 (last))), (3, .int (i32 (one)))]) (st' := [.int (i32 (last)), .ref 89]) rfl (jl_iloadn rfl) ?_
    refine jx_ld (pc' := 20) (l' := [(0, .ref 66), (1, .int (i32 (n))), (2, .int (i32 (last))), (3, .int (i32 (one)))]) (st' := [.int (i32 (one)), .int (i32 (last)), .ref 89]) rfl (jl_iloadn rfl) ?_
    refine jr_st (pc' := 21) (i := 22) (m := 7000) (z := last) (y := one) rfl (by decide) rfl (by decide) (by omega) (by omega) rfl ?_
    have hW3 : Wk G (uA A 22 (last).toNat (one)) := Wk_a hW (show (-2147483648 : Int) ≤ one by omega) (show one ≤ (2147483647 : Int) by omega)
    have hF4 := Fr_a (z := one) (k := 22) (n := (last).toNat) hF0 (by decide)
    obtain ⟨A2, eA2⟩ : ∃ q, q = uA A 22 (last).toNat (one) := ⟨_, rfl⟩
    rw [← eA2]
    rw [← eA2] at hW3 hF4
    have q5 : A2 22 (last).toNat = one := by rw [eA2]; exact uA_eq
    have hP6 : Pf zz A A2 := eA2 ▸ Pf_a hP0 (z := last) (by omega) (by omega)
    refine jx_rt (v := none) rfl rfl rfl rfl rfl rfl ?_
    exact ⟨_, _, rfl, rfl, hW3, hF4, hP6, trivial⟩
  · have _q := h1
    refine jx_ld (pc' := 5) (l' := [(0, .ref 66), (1, .int (i32 (n))), (2, .int (i32 (last))), (3, .int (i32 (one)))]) (st' := [.ref 66]) rfl (jl_aloadn rfl) ?_
    refine jr_get (pc' := 8) (i := 38) (v := .ref 88) rfl rfl (by decide) rfl rfl ?_
    refine jx_ld (pc' := 9) (l' := [(0, .ref 66), (1, .int (i32 (n))), (2, .int (i32 (last))), (3, .int (i32 (one)))]) (st' := [.int (i32 (n)), .ref 88]) rfl (jl_iloadn rfl) ?_
    refine jx_ld (pc' := 10) (l' := [(0, .ref 66), (1, .int (i32 (n))), (2, .int (i32 (last))), (3, .int (i32 (one)))]) (st' := [.int (i32 (one)), .int (i32 (n)), .ref 88]) rfl (jl_iloadn rfl) ?_
    refine jr_st (pc' := 11) (i := 21) (m := 7000) (z := n) (y := one) rfl (by decide) rfl (by decide) (by omega) (by omega) rfl ?_
    have hW8 : Wk G (uA A 21 (n).toNat (one)) := Wk_a hW (show (-2147483648 : Int) ≤ one by omega) (show one ≤ (2147483647 : Int) by omega)
    have hF9 := Fr_a (z := one) (k := 21) (n := (n).toNat) hF0 (by decide)
    obtain ⟨A7, eA7⟩ : ∃ q, q = uA A 21 (n).toNat (one) := ⟨_, rfl⟩
    rw [← eA7]
    rw [← eA7] at hW8 hF9
    have q10 : A7 21 (n).toNat = one := by rw [eA7]; exact uA_eq
    have hP11 : Pf zz A A7 := eA7 ▸ Pf_a hP0 (z := n) (by omega) (by omega)
    refine jx_go (tg := 21) rfl rfl ?_
    refine jx_rt (v := none) rfl rfl rfl rfl rfl rfl ?_
    exact ⟨_, _, rfl, rfl, hW8, hF9, hP11, trivial⟩
set_option maxRecDepth 20000 in
set_option maxHeartbeats 4000000 in
theorem c_readArgument {X : jX} {dd : Nat} {c0 c1 : jC} {G : Nat → Int} {A : Nat → Nat → Int} {T : jH} {pa : Int} {ln le at0 fk op0 nd tk0 : Int} (hd : 70 ≤ dd) (hW : Wk G A) (e_ln : G 9 = ln) (e_le : A 4 (ln).toNat = le) (e_at0 : G 10 = at0) (e_fk : G 16 = fk) (e_op0 : G 15 = op0) (e_nd : G 31 = nd) (e_tk0 : G 11 = tk0) (h_pa : (-2147483648 : Int) ≤ pa ∧ pa ≤ 2147483647) (p_0 : 0 ≤ op0) (p_1 : op0 ≤ 9) (p_2 : op0 ≤ 8 ∨ 1 ≤ fk) (p_3 : nd ≤ 2 * at0 - tz tk0 + 47) (p_4 : at0 ≤ le) (p_5 : fk = 0) (p_6 : op0 ≤ 8) (p_7 : 0 ≤ pa ∧ pa ≤ 208) : wk X dd 306 [.ref 66, .int (i32 pa)] (rV c0 c1 G A T) (fun o V' => ∃ (G' : Nat → Int) (A' : Nat → Nat → Int) (r : Int) (at2 : Int) (fk2 : Int) (op2 : Int) (nd2 : Int) (tk2 : Int), V' = rV c0 c1 G' A' T ∧ o = .inl (some (.int (i32 r))) ∧ Wk G' A' ∧ Fr [10, 11, 12, 13, 14, 15, 16, 17, 18, 31] [15, 16, 17, 18, 19, 20, 21, 22, 24, 28] G A G' A' ∧ Pf nd A A' ∧ ((-2147483648 : Int) ≤ r ∧ r ≤ 2147483647) ∧ G' 10 = at2 ∧ G' 16 = fk2 ∧ G' 15 = op2 ∧ G' 31 = nd2 ∧ G' 11 = tk2 ∧ (at0 ≤ at2) ∧ (at2 ≤ le) ∧ (nd ≤ nd2) ∧ (op2 = op0) ∧ (0 ≤ r) ∧ (r ≤ nd2) ∧ (((fk = 0) ∧ (1 ≤ fk2) ∧ (nd2 - nd ≤ (2 * at2 - tz tk2) - (2 * at0 - tz tk0) + 3)) ∨ ((fk = 0) ∧ (fk2 = 0) ∧ (nd2 - nd ≤ (2 * at2 - tz tk2) - (2 * at0 - tz tk0) + 1) ∧ (nd ≤ r) ∧ (r < nd2)))) := by
  obtain ⟨d, rfl⟩ : ∃ d, dd = d + 1 := ⟨dd - 1, by omega⟩
  refine wk_of (e := jm306) rfl (Nat.le_of_ble_eq_true rfl) ?_
  show wj X d jm306 (0, [(0, .ref 66), (1, .int (i32 (pa)))], [], rV c0 c1 G A T) _
  have hF0 : Fr [10, 11, 12, 13, 14, 15, 16, 17, 18, 31] [15, 16, 17, 18, 19, 20, 21, 22, 24, 28] G A G A := Fr_rf
  have hP0 : Pf nd A A := Pf_rf
  have b_ln : (0 : Int) ≤ ln ∧ ln ≤ 3000 := e_ln ▸ hW.1 9
  have b_le : (0 : Int) ≤ le ∧ le ≤ 3000 := e_le ▸ hW.2 4 _
  have b_at0 : (0 : Int) ≤ at0 ∧ at0 ≤ 3002 := e_at0 ▸ hW.1 10
  have b_fk : (0 : Int) ≤ fk ∧ fk ≤ 6 := e_fk ▸ hW.1 16
  have b_op0 : (-2147483648 : Int) ≤ op0 ∧ op0 ≤ 2147483647 := e_op0 ▸ hW.1 15
  have b_nd : (0 : Int) ≤ nd ∧ nd ≤ 6999 := e_nd ▸ hW.1 31
  have z_tk0 := tz_f tk0
  have b_tk0 : (0 : Int) ≤ tk0 ∧ tk0 ≤ 5 := e_tk0 ▸ hW.1 11
  refine jx_ld (pc' := 1) (l' := [(0, .ref 66), (1, .int (i32 (pa)))]) (st' := [.ref 66]) rfl (jl_aloadn rfl) ?_
  refine jr_get (pc' := 4) (i := 21) (v := .ref 74) rfl rfl (by decide) rfl rfl ?_
  refine jx_ld (pc' := 5) (l' := [(0, .ref 66), (1, .int (i32 (pa)))]) (st' := [.int (i32 (pa)), .ref 74]) rfl (jl_iloadn rfl) ?_
  have b1 : (0 : Int) ≤ A 7 (pa).toNat ∧ A 7 (pa).toNat ≤ 14 := hW.2 7 _
  refine jr_ldv (pc' := 6) (i := 7) (m := 260) (z := pa) (y := A 7 (pa).toNat) rfl (by decide) rfl (by decide) (by omega) (by omega) rfl (show A 7 (pa).toNat = A 7 (pa).toNat from rfl) ?_
  refine jx_ld (pc' := 7) (l' := jSto1 [(0, .ref 66), (1, .int (i32 (pa)))] 2 (.int (i32 (A 7 (pa).toNat)))) (st' := []) rfl rfl ?_
  obtain ⟨L2, eL2⟩ : ∃ q, q = jSto1 [(0, .ref 66), (1, .int (i32 (pa)))] 2 (.int (i32 (A 7 (pa).toNat))) := ⟨_, rfl⟩
  rw [← eL2]
  have gL2_0 : jGet L2 0 = some (.ref 66) := eL2 ▸ jg_ne (by decide) (rfl : jGet [(0, .ref 66), (1, .int (i32 (pa)))] 0 = some (.ref 66)) rfl
  have gL2_1 : jGet L2 1 = some (.int (i32 (pa))) := eL2 ▸ jg_ne (by decide) (rfl : jGet [(0, .ref 66), (1, .int (i32 (pa)))] 1 = some (.int (i32 (pa)))) rfl
  have gL2_2 : jGet L2 2 = some (.int (i32 (A 7 (pa).toNat))) := eL2 ▸ jg_eq
  refine jx_ar (pc' := 8) (st' := [.int (i32 (0))]) rfl rfl rfl rfl ?_
  refine jx_ld (pc' := 9) (l' := jSto1 L2 3 (.int (i32 (0)))) (st' := []) rfl rfl ?_
  obtain ⟨L3, eL3⟩ : ∃ q, q = jSto1 L2 3 (.int (i32 (0))) := ⟨_, rfl⟩
  rw [← eL3]
  have gL3_0 : jGet L3 0 = some (.ref 66) := eL3 ▸ jg_ne (by decide) gL2_0 rfl
  have gL3_1 : jGet L3 1 = some (.int (i32 (pa))) := eL3 ▸ jg_ne (by decide) gL2_1 rfl
  have gL3_2 : jGet L3 2 = some (.int (i32 (A 7 (pa).toNat))) := eL3 ▸ jg_ne (by decide) gL2_2 rfl
  have gL3_3 : jGet L3 3 = some (.int (i32 (0))) := eL3 ▸ jg_eq
  refine jx_ld (pc' := 10) (l' := L3) (st' := [.ref 66]) rfl (jl_aloadn gL3_0) ?_
  refine jx_ar (pc' := 12) (st' := [.int (i32 (41)), .ref 66]) rfl rfl rfl rfl ?_
  have b4 : (-2147483648 : Int) ≤ G 13 ∧ G 13 ≤ 2147483647 := hW.1 13
  refine jx_vr (pc' := 15) (as := [.int (i32 (41))]) (st := []) rfl rfl rfl rfl ⟨rfl, rfl, Nat.le_of_ble_eq_true rfl⟩ rfl rfl (c_is (dd := d) (hd := by omega) (hW := hW) (k := 41) (tk := tk0) (e_tk := show G 11 = tk0 from (e_tk0)) (tn := G 13) (e_tn := show G 13 = G 13 from rfl)  (h_k := ⟨(by decide), (by decide)⟩)  ) (fun o V' hq => ?_)
  obtain ⟨r5, rfl, rfl, b6, q7⟩ := hq
  refine .inr ⟨_, rfl, ?_⟩
  rcases q7 with ⟨rfl, a8, a9, a10⟩ | rfl
  · have _q : True := trivial
    refine jx_if_eq (pc' := 18) (tg := 30) rfl rfl rfl (by decide) (by decide) (fun h11 => ?_) (fun h11 => ?_)
    · have _q := h11
      exact absurd h11 (by omega)
    · have _q := h11
      refine jx_ld (pc' := 19) (l' := L3) (st' := [.ref 66]) rfl (jl_aloadn gL3_0) ?_
      refine jx_ar (pc' := 20) (st' := [.int (i32 (4)), .ref 66]) rfl rfl rfl rfl ?_
      refine jx_ld (pc' := 21) (l' := L3) (st' := [.ref 66, .int (i32 (4)), .ref 66]) rfl (jl_aloadn gL3_0) ?_
      have b12 : (-3000 : Int) ≤ G 12 ∧ G 12 ≤ 3002 := hW.1 12
      refine jr_get (pc' := 24) (i := 12) (v := .int (i32 (G 12))) rfl rfl (by decide) rfl rfl ?_
      refine jx_vr (pc' := 27) (as := [.int (i32 (4)), .int (i32 (G 12))]) (st := []) rfl rfl rfl rfl ⟨rfl, rfl, Nat.le_of_ble_eq_true rfl⟩ rfl rfl (c_fail (dd := d) (hd := by omega) (hW := hW) (kind := 4) (place := G 12) (fk := fk) (e_fk := show G 16 = fk from (e_fk))  (h_kind := ⟨(by decide), (by decide)⟩) (h_place := ⟨(Int.le_trans (by decide : (-2147483648 : Int) ≤ -3000) b12.1), (Int.le_trans b12.2 (by decide : (3002 : Int) ≤ 2147483647))⟩)  (p_0 := by omega) (p_1 := by omega)) (fun o V' hq => ?_)
      obtain ⟨G13, A14, fk2_15, rfl, rfl, hW16, hF17, e18, p19, -⟩ := hq
      have hF21 := Fr_tr hF0 hF17 (Fr_sub (by decide)) (Fr_sub (by decide))
      have hP22 := Pf_f hP0 hF17 (by decide)
      have bfk2_15 : (0 : Int) ≤ fk2_15 ∧ fk2_15 ≤ 6 := e18 ▸ hW16.1 16
      refine .inl ⟨rfl, ?_⟩
      refine jx_go (tg := 172) rfl rfl ?_
      refine jx_ld (pc' := 173) (l' := L3) (st' := [.ref 66]) rfl (jl_aloadn gL3_0) ?_
      refine jx_ar (pc' := 175) (st' := [.int (i32 (7)), .ref 66]) rfl rfl rfl rfl ?_
      refine jx_ld (pc' := 176) (l' := L3) (st' := [.int (i32 (0)), .int (i32 (7)), .ref 66]) rfl (jl_iloadn gL3_3) ?_
      refine jx_ld (pc' := 177) (l' := L3) (st' := [.int (i32 (pa)), .int (i32 (0)), .int (i32 (7)), .ref 66]) rfl (jl_iloadn gL3_1) ?_
      refine jx_ar (pc' := 178) (st' := [.int (i32 (0)), .int (i32 (pa)), .int (i32 (0)), .int (i32 (7)), .ref 66]) rfl rfl rfl rfl ?_
      refine jx_ar (pc' := 179) (st' := [.int (i32 (0)), .int (i32 (0)), .int (i32 (pa)), .int (i32 (0)), .int (i32 (7)), .ref 66]) rfl rfl rfl rfl ?_
      refine jx_vr (pc' := 182) (as := [.int (i32 (7)), .int (i32 (0)), .int (i32 (pa)), .int (i32 (0)), .int (i32 (0))]) (st := []) rfl rfl rfl rfl ⟨rfl, rfl, Nat.le_of_ble_eq_true rfl⟩ rfl rfl (c_node (dd := d) (hd := by omega) (hW := hW16) (kind := 7) (a := 0) (b := pa) (c := 0) (e := 0) (nd := nd) (e_nd := show G13 31 = nd from ((hF17.1 31 rfl).trans (e_nd)))  (h_kind := ⟨(by decide), (by decide)⟩) (h_a := ⟨(by decide), (by decide)⟩) (h_b := ⟨(Int.le_trans (by decide : (-2147483648 : Int) ≤ -2147483648) h_pa.1), (Int.le_trans h_pa.2 (by decide : (2147483647 : Int) ≤ 2147483647))⟩) (h_c := ⟨(by decide), (by decide)⟩) (h_e := ⟨(by decide), (by decide)⟩)  (p_0 := by omega) (p_1 := by omega)) (fun o V' hq => ?_)
      obtain ⟨G23, A24, nd2_25, rfl, rfl, hW26, hF27, hQ28, e29, p30, -⟩ := hq
      have hF32 := Fr_tr hF21 hF27 (Fr_sub (by decide)) (Fr_sub (by decide))
      have hP33 := Pf_tr hP22 hQ28 (by omega)
      have bnd2_25 : (0 : Int) ≤ nd2_25 ∧ nd2_25 ≤ 6999 := e29 ▸ hW26.1 31
      refine .inr ⟨_, rfl, ?_⟩
      refine jx_rt (v := some (.int (i32 (nd)))) rfl rfl rfl rfl rfl rfl ?_
      have z34 := tz_f (tk0)
      exact ⟨_, _, _, at0, fk2_15, op0, nd2_25, tk0, rfl, rfl, hW26, hF32, hP33, by omega, ((hF27.1 10 rfl).trans ((hF17.1 10 rfl).trans (e_at0))), ((hF27.1 16 rfl).trans (e18)), ((hF27.1 15 rfl).trans ((hF17.1 15 rfl).trans (e_op0))), (e29), ((hF27.1 11 rfl).trans ((hF17.1 11 rfl).trans (e_tk0))), by omega, by omega, by omega, by omega, by omega, by omega, by first | exact Or.inl (⟨by omega, by omega, by omega⟩) | exact Or.inr ((⟨by omega, by omega, by omega, by omega, by omega⟩))⟩
  · have _q : True := trivial
    refine jx_if_eq (pc' := 18) (tg := 30) rfl rfl rfl (by decide) (by decide) (fun h35 => ?_) (fun h35 => ?_)
    · have _q := h35
      refine jx_ld (pc' := 31) (l' := L3) (st' := [.int (i32 (A 7 (pa).toNat))]) rfl (jl_iloadn gL3_2) ?_
      refine jx_ar (pc' := 32) (st' := [.int (i32 (5)), .int (i32 (A 7 (pa).toNat))]) rfl rfl rfl rfl ?_
      refine jx_icmp_ne (pc' := 35) (tg := 43) rfl rfl rfl (Int.le_trans (by decide : (-2147483648 : Int) ≤ 0) b1.1) (Int.le_trans b1.2 (by decide : (14 : Int) ≤ 2147483647)) (by decide) (by decide) (fun h36 => ?_) (fun h36 => ?_)
      · have _q := h36
        refine jx_ld (pc' := 44) (l' := L3) (st' := [.ref 66]) rfl (jl_aloadn gL3_0) ?_
        have z37 := tz_f (tk0)
        refine jr_get (pc' := 47) (i := 11) (v := .int (i32 (tk0))) rfl rfl (by decide) (rFv_eq (by decide) (show G 11 = tk0 from (e_tk0))) rfl ?_
        refine jx_ar (pc' := 48) (st' := [.int (i32 (1)), .int (i32 (tk0))]) rfl rfl rfl rfl ?_
        refine jx_icmp_eq (pc' := 51) (tg := 63) rfl rfl rfl (Int.le_trans (by decide : (-2147483648 : Int) ≤ 0) b_tk0.1) (Int.le_trans b_tk0.2 (by decide : (5 : Int) ≤ 2147483647)) (by decide) (by decide) (fun h38 => ?_) (fun h38 => ?_)
        · have _q := h38
          refine jx_ld (pc' := 64) (l' := L3) (st' := [.ref 66]) rfl (jl_aloadn gL3_0) ?_
          have b39 : (-3000 : Int) ≤ G 12 ∧ G 12 ≤ 3002 := hW.1 12
          refine jr_get (pc' := 67) (i := 12) (v := .int (i32 (G 12))) rfl rfl (by decide) rfl rfl ?_
          refine jx_ld (pc' := 69) (l' := jSto1 L3 4 (.int (i32 (G 12)))) (st' := []) rfl rfl ?_
          obtain ⟨L40, eL40⟩ : ∃ q, q = jSto1 L3 4 (.int (i32 (G 12))) := ⟨_, rfl⟩
          rw [← eL40]
          have gL40_0 : jGet L40 0 = some (.ref 66) := eL40 ▸ jg_ne (by decide) gL3_0 rfl
          have gL40_1 : jGet L40 1 = some (.int (i32 (pa))) := eL40 ▸ jg_ne (by decide) gL3_1 rfl
          have gL40_2 : jGet L40 2 = some (.int (i32 (A 7 (pa).toNat))) := eL40 ▸ jg_ne (by decide) gL3_2 rfl
          have gL40_3 : jGet L40 3 = some (.int (i32 (0))) := eL40 ▸ jg_ne (by decide) gL3_3 rfl
          have gL40_4 : jGet L40 4 = some (.int (i32 (G 12))) := eL40 ▸ jg_eq
          refine jx_ld (pc' := 70) (l' := L40) (st' := [.ref 66]) rfl (jl_aloadn gL40_0) ?_
          refine jx_vr (pc' := 73) (as := []) (st := []) rfl rfl rfl rfl ⟨rfl, rfl, Nat.le_of_ble_eq_true rfl⟩ rfl rfl (c_lookUp (dd := d) (hd := by omega) (hW := hW)  (fk := fk) (e_fk := show G 16 = fk from (e_fk))    ) (fun o V' hq => ?_)
          obtain ⟨G41, A42, r43, fk2_44, rfl, rfl, hW45, hF46, b47, e48, q49⟩ := hq
          have hF50 := Fr_tr hF0 hF46 (Fr_sub (by decide)) (Fr_sub (by decide))
          have hP51 := Pf_f hP0 hF46 (by decide)
          have bfk2_44 : (0 : Int) ≤ fk2_44 ∧ fk2_44 ≤ 6 := e48 ▸ hW45.1 16
          refine .inr ⟨_, rfl, ?_⟩
          rcases q49 with ⟨a52, a53⟩ | ⟨a54, a55, a56⟩
          · have _q : True := trivial
            refine jx_ld (pc' := 75) (l' := jSto1 L40 5 (.int (i32 (r43)))) (st' := []) rfl rfl ?_
            obtain ⟨L57, eL57⟩ : ∃ q, q = jSto1 L40 5 (.int (i32 (r43))) := ⟨_, rfl⟩
            rw [← eL57]
            have gL57_0 : jGet L57 0 = some (.ref 66) := eL57 ▸ jg_ne (by decide) gL40_0 rfl
            have gL57_1 : jGet L57 1 = some (.int (i32 (pa))) := eL57 ▸ jg_ne (by decide) gL40_1 rfl
            have gL57_2 : jGet L57 2 = some (.int (i32 (A 7 (pa).toNat))) := eL57 ▸ jg_ne (by decide) gL40_2 rfl
            have gL57_3 : jGet L57 3 = some (.int (i32 (0))) := eL57 ▸ jg_ne (by decide) gL40_3 rfl
            have gL57_4 : jGet L57 4 = some (.int (i32 (G 12))) := eL57 ▸ jg_ne (by decide) gL40_4 rfl
            have gL57_5 : jGet L57 5 = some (.int (i32 (r43))) := eL57 ▸ jg_eq
            refine jx_ld (pc' := 76) (l' := L57) (st' := [.ref 66]) rfl (jl_aloadn gL57_0) ?_
            refine jx_vr (pc' := 79) (as := []) (st := []) rfl rfl rfl rfl ⟨rfl, rfl, Nat.le_of_ble_eq_true rfl⟩ rfl rfl (c_bad (dd := d) (hd := by omega) (hW := hW45)  (fk := fk2_44) (e_fk := show G41 16 = fk2_44 from (e48))    ) (fun o V' hq => ?_)
            obtain ⟨r58, rfl, rfl, b59, q60⟩ := hq
            refine .inr ⟨_, rfl, ?_⟩
            rcases q60 with ⟨rfl, a61⟩ | ⟨rfl, a62⟩
            · have _q : True := trivial
              refine jx_if_eq (pc' := 82) (tg := 84) rfl rfl rfl (by decide) (by decide) (fun h63 => ?_) (fun h63 => ?_)
              · have _q := h63
                exact absurd h63 (by omega)
              · have _q := h63
                refine jx_ar (pc' := 83) (st' := [.int (i32 (0))]) rfl rfl rfl rfl ?_
                refine jx_rt (v := some (.int (i32 (0)))) rfl rfl rfl rfl rfl rfl ?_
                have z64 := tz_f (tk0)
                exact ⟨_, _, _, at0, fk2_44, op0, nd, tk0, rfl, rfl, hW45, hF50, hP51, by omega, ((hF46.1 10 rfl).trans (e_at0)), (e48), ((hF46.1 15 rfl).trans (e_op0)), ((hF46.1 31 rfl).trans (e_nd)), ((hF46.1 11 rfl).trans (e_tk0)), by omega, by omega, by omega, by omega, by omega, by omega, by first | exact Or.inl (⟨by omega, by omega, by omega⟩) | exact Or.inr ((⟨by omega, by omega, by omega, by omega, by omega⟩))⟩
            · have _q : True := trivial
              exfalso
              omega
          · have _q : True := trivial
            refine jx_ld (pc' := 75) (l' := jSto1 L40 5 (.int (i32 (r43)))) (st' := []) rfl rfl ?_
            obtain ⟨L65, eL65⟩ : ∃ q, q = jSto1 L40 5 (.int (i32 (r43))) := ⟨_, rfl⟩
            rw [← eL65]
            have gL65_0 : jGet L65 0 = some (.ref 66) := eL65 ▸ jg_ne (by decide) gL40_0 rfl
            have gL65_1 : jGet L65 1 = some (.int (i32 (pa))) := eL65 ▸ jg_ne (by decide) gL40_1 rfl
            have gL65_2 : jGet L65 2 = some (.int (i32 (A 7 (pa).toNat))) := eL65 ▸ jg_ne (by decide) gL40_2 rfl
            have gL65_3 : jGet L65 3 = some (.int (i32 (0))) := eL65 ▸ jg_ne (by decide) gL40_3 rfl
            have gL65_4 : jGet L65 4 = some (.int (i32 (G 12))) := eL65 ▸ jg_ne (by decide) gL40_4 rfl
            have gL65_5 : jGet L65 5 = some (.int (i32 (r43))) := eL65 ▸ jg_eq
            refine jx_ld (pc' := 76) (l' := L65) (st' := [.ref 66]) rfl (jl_aloadn gL65_0) ?_
            refine jx_vr (pc' := 79) (as := []) (st := []) rfl rfl rfl rfl ⟨rfl, rfl, Nat.le_of_ble_eq_true rfl⟩ rfl rfl (c_bad (dd := d) (hd := by omega) (hW := hW45)  (fk := fk2_44) (e_fk := show G41 16 = fk2_44 from (e48))    ) (fun o V' hq => ?_)
            obtain ⟨r66, rfl, rfl, b67, q68⟩ := hq
            refine .inr ⟨_, rfl, ?_⟩
            rcases q68 with ⟨rfl, a69⟩ | ⟨rfl, a70⟩
            · have _q : True := trivial
              exfalso
              omega
            · have _q : True := trivial
              refine jx_if_eq (pc' := 82) (tg := 84) rfl rfl rfl (by decide) (by decide) (fun h71 => ?_) (fun h71 => ?_)
              · have _q := h71
                refine jx_ld (pc' := 85) (l' := L65) (st' := [.int (i32 (A 7 (pa).toNat))]) rfl (jl_iloadn gL65_2) ?_
                refine jx_ar (pc' := 87) (st' := [.int (i32 (7)), .int (i32 (A 7 (pa).toNat))]) rfl rfl rfl rfl ?_
                refine jx_icmp_ne (pc' := 90) (tg := 128) rfl rfl rfl (Int.le_trans (by decide : (-2147483648 : Int) ≤ 0) b1.1) (Int.le_trans b1.2 (by decide : (14 : Int) ≤ 2147483647)) (by decide) (by decide) (fun h72 => ?_) (fun h72 => ?_)
                · have _q := h72
                  refine jx_ld (pc' := 129) (l' := L65) (st' := [.ref 66]) rfl (jl_aloadn gL65_0) ?_
                  refine jx_vr (pc' := 132) (as := []) (st := []) rfl rfl rfl rfl ⟨rfl, rfl, Nat.le_of_ble_eq_true rfl⟩ rfl rfl (c_next (dd := d) (hd := by omega) (hW := hW45)  (ln := ln) (e_ln := show G41 9 = ln from ((hF46.1 9 rfl).trans (e_ln))) (le := le) (e_le := show A42 4 (ln).toNat = le from (congrFun (hF46.2 4 rfl) _).trans (e_le)) (at0 := at0) (e_at0 := show G41 10 = at0 from ((hF46.1 10 rfl).trans (e_at0)))    (p_0 := by omega)) (fun o V' hq => ?_)
                  obtain ⟨G73, A74, at2_75, tk2_76, rfl, rfl, hW77, hF78, e79, e80, p81, p82, p83, -⟩ := hq
                  have hF85 := Fr_tr hF50 hF78 (Fr_sub (by decide)) (Fr_sub (by decide))
                  have hP86 := Pf_f hP51 hF78 (by decide)
                  have bat2_75 : (0 : Int) ≤ at2_75 ∧ at2_75 ≤ 3002 := e79 ▸ hW77.1 10
                  have ztk2_76 := tz_b tk2_76
                  have btk2_76 : (0 : Int) ≤ tk2_76 ∧ tk2_76 ≤ 5 := e80 ▸ hW77.1 11
                  refine .inl ⟨rfl, ?_⟩
                  refine jx_ld (pc' := 133) (l' := L65) (st' := [.int (i32 (A 7 (pa).toNat))]) rfl (jl_iloadn gL65_2) ?_
                  refine jx_ar (pc' := 135) (st' := [.int (i32 (7)), .int (i32 (A 7 (pa).toNat))]) rfl rfl rfl rfl ?_
                  refine jx_icmp_ne (pc' := 138) (tg := 152) rfl rfl rfl (Int.le_trans (by decide : (-2147483648 : Int) ≤ 0) b1.1) (Int.le_trans b1.2 (by decide : (14 : Int) ≤ 2147483647)) (by decide) (by decide) (fun h87 => ?_) (fun h87 => ?_)
                  · have _q := h87
                    refine jx_ld (pc' := 153) (l' := L65) (st' := [.ref 66]) rfl (jl_aloadn gL65_0) ?_
                    refine jx_ld (pc' := 155) (l' := L65) (st' := [.int (i32 (r43)), .ref 66]) rfl (jl_iload gL65_5) ?_
                    refine jx_ld (pc' := 157) (l' := L65) (st' := [.int (i32 (G 12)), .int (i32 (r43)), .ref 66]) rfl (jl_iload gL65_4) ?_
                    refine jx_ld (pc' := 158) (l' := L65) (st' := [.int (i32 (A 7 (pa).toNat)), .int (i32 (G 12)), .int (i32 (r43)), .ref 66]) rfl (jl_iloadn gL65_2) ?_
                    refine jx_ar (pc' := 160) (st' := [.int (i32 (8)), .int (i32 (A 7 (pa).toNat)), .int (i32 (G 12)), .int (i32 (r43)), .ref 66]) rfl rfl rfl rfl ?_
                    refine jx_icmp_ne (pc' := 163) (tg := 167) rfl rfl rfl (Int.le_trans (by decide : (-2147483648 : Int) ≤ 0) b1.1) (Int.le_trans b1.2 (by decide : (14 : Int) ≤ 2147483647)) (by decide) (by decide) (fun h88 => ?_) (fun h88 => ?_)
                    · have _q := h88
                      refine jx_ar (pc' := 168) (st' := [.int (i32 (0)), .int (i32 (G 12)), .int (i32 (r43)), .ref 66]) rfl rfl rfl rfl ?_
                      refine jx_vr (pc' := 171) (as := [.int (i32 (r43)), .int (i32 (G 12)), .int (i32 (0))]) (st := []) rfl rfl rfl rfl ⟨rfl, rfl, Nat.le_of_ble_eq_true rfl⟩ rfl rfl (c_readBehind (dd := d) (hd := by omega) (hW := hW77) (s := r43) (place := G 12) (ch := 0) (ln := ln) (e_ln := show G73 9 = ln from ((hF78.1 9 rfl).trans ((hF46.1 9 rfl).trans (e_ln)))) (le := le) (e_le := show A74 4 (ln).toNat = le from (congrFun ((hF78.2 4 rfl).trans (hF46.2 4 rfl)) _).trans (e_le)) (at0 := at2_75) (e_at0 := show G73 10 = at2_75 from (e79)) (fk := fk2_44) (e_fk := show G73 16 = fk2_44 from ((hF78.1 16 rfl).trans (e48))) (op0 := op0) (e_op0 := show G73 15 = op0 from ((hF78.1 15 rfl).trans ((hF46.1 15 rfl).trans (e_op0)))) (nd := nd) (e_nd := show G73 31 = nd from ((hF78.1 31 rfl).trans ((hF46.1 31 rfl).trans (e_nd)))) (tk0 := tk2_76) (e_tk0 := show G73 11 = tk2_76 from (e80))  (h_s := ⟨(Int.le_trans (by decide : (-2147483648 : Int) ≤ -2147483648) b47.1), (Int.le_trans b47.2 (by decide : (2147483647 : Int) ≤ 2147483647))⟩) (h_place := ⟨(Int.le_trans (by decide : (-2147483648 : Int) ≤ -3000) b39.1), (Int.le_trans b39.2 (by decide : (3002 : Int) ≤ 2147483647))⟩) (h_ch := ⟨(by decide), (by decide)⟩)  (p_0 := by omega) (p_1 := by omega) (p_2 := by omega) (p_3 := by omega) (p_4 := by omega) (p_5 := by omega) (p_6 := by omega) (p_7 := by omega) (p_8 := by omega)) (fun o V' hq => ?_)
                      obtain ⟨G89, A90, r91, at2_92, fk2_93, op2_94, nd2_95, tk2_96, rfl, rfl, hW97, hF98, hQ99, b100, e101, e102, e103, e104, e105, p106, p107, p108, p109, p110, p111, q112⟩ := hq
                      have hF113 := Fr_tr hF85 hF98 (Fr_sub (by decide)) (Fr_sub (by decide))
                      have hP114 := Pf_tr hP86 hQ99 (by omega)
                      have bat2_92 : (0 : Int) ≤ at2_92 ∧ at2_92 ≤ 3002 := e101 ▸ hW97.1 10
                      have bfk2_93 : (0 : Int) ≤ fk2_93 ∧ fk2_93 ≤ 6 := e102 ▸ hW97.1 16
                      have bop2_94 : (-2147483648 : Int) ≤ op2_94 ∧ op2_94 ≤ 2147483647 := e103 ▸ hW97.1 15
                      have bnd2_95 : (0 : Int) ≤ nd2_95 ∧ nd2_95 ≤ 6999 := e104 ▸ hW97.1 31
                      have ztk2_96 := tz_b tk2_96
                      have btk2_96 : (0 : Int) ≤ tk2_96 ∧ tk2_96 ≤ 5 := e105 ▸ hW97.1 11
                      refine .inr ⟨_, rfl, ?_⟩
                      rcases q112 with ⟨a115, a116, a117⟩ | ⟨a118, a119, a120⟩
                      · have _q : True := trivial
                        refine jx_ld (pc' := 172) (l' := jSto1 L65 3 (.int (i32 (r91)))) (st' := []) rfl rfl ?_
                        obtain ⟨L121, eL121⟩ : ∃ q, q = jSto1 L65 3 (.int (i32 (r91))) := ⟨_, rfl⟩
                        rw [← eL121]
                        have gL121_0 : jGet L121 0 = some (.ref 66) := eL121 ▸ jg_ne (by decide) gL65_0 rfl
                        have gL121_1 : jGet L121 1 = some (.int (i32 (pa))) := eL121 ▸ jg_ne (by decide) gL65_1 rfl
                        have gL121_2 : jGet L121 2 = some (.int (i32 (A 7 (pa).toNat))) := eL121 ▸ jg_ne (by decide) gL65_2 rfl
                        have gL121_4 : jGet L121 4 = some (.int (i32 (G 12))) := eL121 ▸ jg_ne (by decide) gL65_4 rfl
                        have gL121_5 : jGet L121 5 = some (.int (i32 (r43))) := eL121 ▸ jg_ne (by decide) gL65_5 rfl
                        have gL121_3 : jGet L121 3 = some (.int (i32 (r91))) := eL121 ▸ jg_eq
                        refine jx_ld (pc' := 173) (l' := L121) (st' := [.ref 66]) rfl (jl_aloadn gL121_0) ?_
                        refine jx_ar (pc' := 175) (st' := [.int (i32 (7)), .ref 66]) rfl rfl rfl rfl ?_
                        refine jx_ld (pc' := 176) (l' := L121) (st' := [.int (i32 (r91)), .int (i32 (7)), .ref 66]) rfl (jl_iloadn gL121_3) ?_
                        refine jx_ld (pc' := 177) (l' := L121) (st' := [.int (i32 (pa)), .int (i32 (r91)), .int (i32 (7)), .ref 66]) rfl (jl_iloadn gL121_1) ?_
                        refine jx_ar (pc' := 178) (st' := [.int (i32 (0)), .int (i32 (pa)), .int (i32 (r91)), .int (i32 (7)), .ref 66]) rfl rfl rfl rfl ?_
                        refine jx_ar (pc' := 179) (st' := [.int (i32 (0)), .int (i32 (0)), .int (i32 (pa)), .int (i32 (r91)), .int (i32 (7)), .ref 66]) rfl rfl rfl rfl ?_
                        refine jx_vr (pc' := 182) (as := [.int (i32 (7)), .int (i32 (r91)), .int (i32 (pa)), .int (i32 (0)), .int (i32 (0))]) (st := []) rfl rfl rfl rfl ⟨rfl, rfl, Nat.le_of_ble_eq_true rfl⟩ rfl rfl (c_node (dd := d) (hd := by omega) (hW := hW97) (kind := 7) (a := r91) (b := pa) (c := 0) (e := 0) (nd := nd2_95) (e_nd := show G89 31 = nd2_95 from (e104))  (h_kind := ⟨(by decide), (by decide)⟩) (h_a := ⟨(Int.le_trans (by decide : (-2147483648 : Int) ≤ -2147483648) b100.1), (Int.le_trans b100.2 (by decide : (2147483647 : Int) ≤ 2147483647))⟩) (h_b := ⟨(Int.le_trans (by decide : (-2147483648 : Int) ≤ -2147483648) h_pa.1), (Int.le_trans h_pa.2 (by decide : (2147483647 : Int) ≤ 2147483647))⟩) (h_c := ⟨(by decide), (by decide)⟩) (h_e := ⟨(by decide), (by decide)⟩)  (p_0 := by omega) (p_1 := by omega)) (fun o V' hq => ?_)
                        obtain ⟨G122, A123, nd2_124, rfl, rfl, hW125, hF126, hQ127, e128, p129, -⟩ := hq
                        have hF131 := Fr_tr hF113 hF126 (Fr_sub (by decide)) (Fr_sub (by decide))
                        have hP132 := Pf_tr hP114 hQ127 (by omega)
                        have bnd2_124 : (0 : Int) ≤ nd2_124 ∧ nd2_124 ≤ 6999 := e128 ▸ hW125.1 31
                        refine .inr ⟨_, rfl, ?_⟩
                        refine jx_rt (v := some (.int (i32 (nd2_95)))) rfl rfl rfl rfl rfl rfl ?_
                        have z133 := tz_f (tk2_96)
                        exact ⟨_, _, _, at2_92, fk2_93, op2_94, nd2_124, tk2_96, rfl, rfl, hW125, hF131, hP132, by omega, ((hF126.1 10 rfl).trans (e101)), ((hF126.1 16 rfl).trans (e102)), ((hF126.1 15 rfl).trans (e103)), (e128), ((hF126.1 11 rfl).trans (e105)), by omega, by omega, by omega, by omega, by omega, by omega, by first | exact Or.inl (⟨by omega, by omega, by omega⟩) | exact Or.inr ((⟨by omega, by omega, by omega, by omega, by omega⟩))⟩
                      · have _q : True := trivial
                        refine jx_ld (pc' := 172) (l' := jSto1 L65 3 (.int (i32 (r91)))) (st' := []) rfl rfl ?_
                        obtain ⟨L134, eL134⟩ : ∃ q, q = jSto1 L65 3 (.int (i32 (r91))) := ⟨_, rfl⟩
                        rw [← eL134]
                        have gL134_0 : jGet L134 0 = some (.ref 66) := eL134 ▸ jg_ne (by decide) gL65_0 rfl
                        have gL134_1 : jGet L134 1 = some (.int (i32 (pa))) := eL134 ▸ jg_ne (by decide) gL65_1 rfl
                        have gL134_2 : jGet L134 2 = some (.int (i32 (A 7 (pa).toNat))) := eL134 ▸ jg_ne (by decide) gL65_2 rfl
                        have gL134_4 : jGet L134 4 = some (.int (i32 (G 12))) := eL134 ▸ jg_ne (by decide) gL65_4 rfl
                        have gL134_5 : jGet L134 5 = some (.int (i32 (r43))) := eL134 ▸ jg_ne (by decide) gL65_5 rfl
                        have gL134_3 : jGet L134 3 = some (.int (i32 (r91))) := eL134 ▸ jg_eq
                        refine jx_ld (pc' := 173) (l' := L134) (st' := [.ref 66]) rfl (jl_aloadn gL134_0) ?_
                        refine jx_ar (pc' := 175) (st' := [.int (i32 (7)), .ref 66]) rfl rfl rfl rfl ?_
                        refine jx_ld (pc' := 176) (l' := L134) (st' := [.int (i32 (r91)), .int (i32 (7)), .ref 66]) rfl (jl_iloadn gL134_3) ?_
                        refine jx_ld (pc' := 177) (l' := L134) (st' := [.int (i32 (pa)), .int (i32 (r91)), .int (i32 (7)), .ref 66]) rfl (jl_iloadn gL134_1) ?_
                        refine jx_ar (pc' := 178) (st' := [.int (i32 (0)), .int (i32 (pa)), .int (i32 (r91)), .int (i32 (7)), .ref 66]) rfl rfl rfl rfl ?_
                        refine jx_ar (pc' := 179) (st' := [.int (i32 (0)), .int (i32 (0)), .int (i32 (pa)), .int (i32 (r91)), .int (i32 (7)), .ref 66]) rfl rfl rfl rfl ?_
                        refine jx_vr (pc' := 182) (as := [.int (i32 (7)), .int (i32 (r91)), .int (i32 (pa)), .int (i32 (0)), .int (i32 (0))]) (st := []) rfl rfl rfl rfl ⟨rfl, rfl, Nat.le_of_ble_eq_true rfl⟩ rfl rfl (c_node (dd := d) (hd := by omega) (hW := hW97) (kind := 7) (a := r91) (b := pa) (c := 0) (e := 0) (nd := nd2_95) (e_nd := show G89 31 = nd2_95 from (e104))  (h_kind := ⟨(by decide), (by decide)⟩) (h_a := ⟨(Int.le_trans (by decide : (-2147483648 : Int) ≤ -2147483648) b100.1), (Int.le_trans b100.2 (by decide : (2147483647 : Int) ≤ 2147483647))⟩) (h_b := ⟨(Int.le_trans (by decide : (-2147483648 : Int) ≤ -2147483648) h_pa.1), (Int.le_trans h_pa.2 (by decide : (2147483647 : Int) ≤ 2147483647))⟩) (h_c := ⟨(by decide), (by decide)⟩) (h_e := ⟨(by decide), (by decide)⟩)  (p_0 := by omega) (p_1 := by omega)) (fun o V' hq => ?_)
                        obtain ⟨G135, A136, nd2_137, rfl, rfl, hW138, hF139, hQ140, e141, p142, -⟩ := hq
                        have hF144 := Fr_tr hF113 hF139 (Fr_sub (by decide)) (Fr_sub (by decide))
                        have hP145 := Pf_tr hP114 hQ140 (by omega)
                        have bnd2_137 : (0 : Int) ≤ nd2_137 ∧ nd2_137 ≤ 6999 := e141 ▸ hW138.1 31
                        refine .inr ⟨_, rfl, ?_⟩
                        refine jx_rt (v := some (.int (i32 (nd2_95)))) rfl rfl rfl rfl rfl rfl ?_
                        have z146 := tz_f (tk2_96)
                        exact ⟨_, _, _, at2_92, fk2_93, op2_94, nd2_137, tk2_96, rfl, rfl, hW138, hF144, hP145, by omega, ((hF139.1 10 rfl).trans (e101)), ((hF139.1 16 rfl).trans (e102)), ((hF139.1 15 rfl).trans (e103)), (e141), ((hF139.1 11 rfl).trans (e105)), by omega, by omega, by omega, by omega, by omega, by omega, by first | exact Or.inl (⟨by omega, by omega, by omega⟩) | exact Or.inr ((⟨by omega, by omega, by omega, by omega, by omega⟩))⟩
                    · have _q := h88
                      refine jx_ar (pc' := 164) (st' := [.int (i32 (1)), .int (i32 (G 12)), .int (i32 (r43)), .ref 66]) rfl rfl rfl rfl ?_
                      refine jx_go (tg := 168) rfl rfl ?_
                      refine jx_vr (pc' := 171) (as := [.int (i32 (r43)), .int (i32 (G 12)), .int (i32 (1))]) (st := []) rfl rfl rfl rfl ⟨rfl, rfl, Nat.le_of_ble_eq_true rfl⟩ rfl rfl (c_readBehind (dd := d) (hd := by omega) (hW := hW77) (s := r43) (place := G 12) (ch := 1) (ln := ln) (e_ln := show G73 9 = ln from ((hF78.1 9 rfl).trans ((hF46.1 9 rfl).trans (e_ln)))) (le := le) (e_le := show A74 4 (ln).toNat = le from (congrFun ((hF78.2 4 rfl).trans (hF46.2 4 rfl)) _).trans (e_le)) (at0 := at2_75) (e_at0 := show G73 10 = at2_75 from (e79)) (fk := fk2_44) (e_fk := show G73 16 = fk2_44 from ((hF78.1 16 rfl).trans (e48))) (op0 := op0) (e_op0 := show G73 15 = op0 from ((hF78.1 15 rfl).trans ((hF46.1 15 rfl).trans (e_op0)))) (nd := nd) (e_nd := show G73 31 = nd from ((hF78.1 31 rfl).trans ((hF46.1 31 rfl).trans (e_nd)))) (tk0 := tk2_76) (e_tk0 := show G73 11 = tk2_76 from (e80))  (h_s := ⟨(Int.le_trans (by decide : (-2147483648 : Int) ≤ -2147483648) b47.1), (Int.le_trans b47.2 (by decide : (2147483647 : Int) ≤ 2147483647))⟩) (h_place := ⟨(Int.le_trans (by decide : (-2147483648 : Int) ≤ -3000) b39.1), (Int.le_trans b39.2 (by decide : (3002 : Int) ≤ 2147483647))⟩) (h_ch := ⟨(by decide), (by decide)⟩)  (p_0 := by omega) (p_1 := by omega) (p_2 := by omega) (p_3 := by omega) (p_4 := by omega) (p_5 := by omega) (p_6 := by omega) (p_7 := by omega) (p_8 := by omega)) (fun o V' hq => ?_)
                      obtain ⟨G147, A148, r149, at2_150, fk2_151, op2_152, nd2_153, tk2_154, rfl, rfl, hW155, hF156, hQ157, b158, e159, e160, e161, e162, e163, p164, p165, p166, p167, p168, p169, q170⟩ := hq
                      have hF171 := Fr_tr hF85 hF156 (Fr_sub (by decide)) (Fr_sub (by decide))
                      have hP172 := Pf_tr hP86 hQ157 (by omega)
                      have bat2_150 : (0 : Int) ≤ at2_150 ∧ at2_150 ≤ 3002 := e159 ▸ hW155.1 10
                      have bfk2_151 : (0 : Int) ≤ fk2_151 ∧ fk2_151 ≤ 6 := e160 ▸ hW155.1 16
                      have bop2_152 : (-2147483648 : Int) ≤ op2_152 ∧ op2_152 ≤ 2147483647 := e161 ▸ hW155.1 15
                      have bnd2_153 : (0 : Int) ≤ nd2_153 ∧ nd2_153 ≤ 6999 := e162 ▸ hW155.1 31
                      have ztk2_154 := tz_b tk2_154
                      have btk2_154 : (0 : Int) ≤ tk2_154 ∧ tk2_154 ≤ 5 := e163 ▸ hW155.1 11
                      refine .inr ⟨_, rfl, ?_⟩
                      rcases q170 with ⟨a173, a174, a175⟩ | ⟨a176, a177, a178⟩
                      · have _q : True := trivial
                        refine jx_ld (pc' := 172) (l' := jSto1 L65 3 (.int (i32 (r149)))) (st' := []) rfl rfl ?_
                        obtain ⟨L179, eL179⟩ : ∃ q, q = jSto1 L65 3 (.int (i32 (r149))) := ⟨_, rfl⟩
                        rw [← eL179]
                        have gL179_0 : jGet L179 0 = some (.ref 66) := eL179 ▸ jg_ne (by decide) gL65_0 rfl
                        have gL179_1 : jGet L179 1 = some (.int (i32 (pa))) := eL179 ▸ jg_ne (by decide) gL65_1 rfl
                        have gL179_2 : jGet L179 2 = some (.int (i32 (A 7 (pa).toNat))) := eL179 ▸ jg_ne (by decide) gL65_2 rfl
                        have gL179_4 : jGet L179 4 = some (.int (i32 (G 12))) := eL179 ▸ jg_ne (by decide) gL65_4 rfl
                        have gL179_5 : jGet L179 5 = some (.int (i32 (r43))) := eL179 ▸ jg_ne (by decide) gL65_5 rfl
                        have gL179_3 : jGet L179 3 = some (.int (i32 (r149))) := eL179 ▸ jg_eq
                        refine jx_ld (pc' := 173) (l' := L179) (st' := [.ref 66]) rfl (jl_aloadn gL179_0) ?_
                        refine jx_ar (pc' := 175) (st' := [.int (i32 (7)), .ref 66]) rfl rfl rfl rfl ?_
                        refine jx_ld (pc' := 176) (l' := L179) (st' := [.int (i32 (r149)), .int (i32 (7)), .ref 66]) rfl (jl_iloadn gL179_3) ?_
                        refine jx_ld (pc' := 177) (l' := L179) (st' := [.int (i32 (pa)), .int (i32 (r149)), .int (i32 (7)), .ref 66]) rfl (jl_iloadn gL179_1) ?_
                        refine jx_ar (pc' := 178) (st' := [.int (i32 (0)), .int (i32 (pa)), .int (i32 (r149)), .int (i32 (7)), .ref 66]) rfl rfl rfl rfl ?_
                        refine jx_ar (pc' := 179) (st' := [.int (i32 (0)), .int (i32 (0)), .int (i32 (pa)), .int (i32 (r149)), .int (i32 (7)), .ref 66]) rfl rfl rfl rfl ?_
                        refine jx_vr (pc' := 182) (as := [.int (i32 (7)), .int (i32 (r149)), .int (i32 (pa)), .int (i32 (0)), .int (i32 (0))]) (st := []) rfl rfl rfl rfl ⟨rfl, rfl, Nat.le_of_ble_eq_true rfl⟩ rfl rfl (c_node (dd := d) (hd := by omega) (hW := hW155) (kind := 7) (a := r149) (b := pa) (c := 0) (e := 0) (nd := nd2_153) (e_nd := show G147 31 = nd2_153 from (e162))  (h_kind := ⟨(by decide), (by decide)⟩) (h_a := ⟨(Int.le_trans (by decide : (-2147483648 : Int) ≤ -2147483648) b158.1), (Int.le_trans b158.2 (by decide : (2147483647 : Int) ≤ 2147483647))⟩) (h_b := ⟨(Int.le_trans (by decide : (-2147483648 : Int) ≤ -2147483648) h_pa.1), (Int.le_trans h_pa.2 (by decide : (2147483647 : Int) ≤ 2147483647))⟩) (h_c := ⟨(by decide), (by decide)⟩) (h_e := ⟨(by decide), (by decide)⟩)  (p_0 := by omega) (p_1 := by omega)) (fun o V' hq => ?_)
                        obtain ⟨G180, A181, nd2_182, rfl, rfl, hW183, hF184, hQ185, e186, p187, -⟩ := hq
                        have hF189 := Fr_tr hF171 hF184 (Fr_sub (by decide)) (Fr_sub (by decide))
                        have hP190 := Pf_tr hP172 hQ185 (by omega)
                        have bnd2_182 : (0 : Int) ≤ nd2_182 ∧ nd2_182 ≤ 6999 := e186 ▸ hW183.1 31
                        refine .inr ⟨_, rfl, ?_⟩
                        refine jx_rt (v := some (.int (i32 (nd2_153)))) rfl rfl rfl rfl rfl rfl ?_
                        have z191 := tz_f (tk2_154)
                        exact ⟨_, _, _, at2_150, fk2_151, op2_152, nd2_182, tk2_154, rfl, rfl, hW183, hF189, hP190, by omega, ((hF184.1 10 rfl).trans (e159)), ((hF184.1 16 rfl).trans (e160)), ((hF184.1 15 rfl).trans (e161)), (e186), ((hF184.1 11 rfl).trans (e163)), by omega, by omega, by omega, by omega, by omega, by omega, by first | exact Or.inl (⟨by omega, by omega, by omega⟩) | exact Or.inr ((⟨by omega, by omega, by omega, by omega, by omega⟩))⟩
                      · have _q : True := trivial
                        refine jx_ld (pc' := 172) (l' := jSto1 L65 3 (.int (i32 (r149)))) (st' := []) rfl rfl ?_
                        obtain ⟨L192, eL192⟩ : ∃ q, q = jSto1 L65 3 (.int (i32 (r149))) := ⟨_, rfl⟩
                        rw [← eL192]
                        have gL192_0 : jGet L192 0 = some (.ref 66) := eL192 ▸ jg_ne (by decide) gL65_0 rfl
                        have gL192_1 : jGet L192 1 = some (.int (i32 (pa))) := eL192 ▸ jg_ne (by decide) gL65_1 rfl
                        have gL192_2 : jGet L192 2 = some (.int (i32 (A 7 (pa).toNat))) := eL192 ▸ jg_ne (by decide) gL65_2 rfl
                        have gL192_4 : jGet L192 4 = some (.int (i32 (G 12))) := eL192 ▸ jg_ne (by decide) gL65_4 rfl
                        have gL192_5 : jGet L192 5 = some (.int (i32 (r43))) := eL192 ▸ jg_ne (by decide) gL65_5 rfl
                        have gL192_3 : jGet L192 3 = some (.int (i32 (r149))) := eL192 ▸ jg_eq
                        refine jx_ld (pc' := 173) (l' := L192) (st' := [.ref 66]) rfl (jl_aloadn gL192_0) ?_
                        refine jx_ar (pc' := 175) (st' := [.int (i32 (7)), .ref 66]) rfl rfl rfl rfl ?_
                        refine jx_ld (pc' := 176) (l' := L192) (st' := [.int (i32 (r149)), .int (i32 (7)), .ref 66]) rfl (jl_iloadn gL192_3) ?_
                        refine jx_ld (pc' := 177) (l' := L192) (st' := [.int (i32 (pa)), .int (i32 (r149)), .int (i32 (7)), .ref 66]) rfl (jl_iloadn gL192_1) ?_
                        refine jx_ar (pc' := 178) (st' := [.int (i32 (0)), .int (i32 (pa)), .int (i32 (r149)), .int (i32 (7)), .ref 66]) rfl rfl rfl rfl ?_
                        refine jx_ar (pc' := 179) (st' := [.int (i32 (0)), .int (i32 (0)), .int (i32 (pa)), .int (i32 (r149)), .int (i32 (7)), .ref 66]) rfl rfl rfl rfl ?_
                        refine jx_vr (pc' := 182) (as := [.int (i32 (7)), .int (i32 (r149)), .int (i32 (pa)), .int (i32 (0)), .int (i32 (0))]) (st := []) rfl rfl rfl rfl ⟨rfl, rfl, Nat.le_of_ble_eq_true rfl⟩ rfl rfl (c_node (dd := d) (hd := by omega) (hW := hW155) (kind := 7) (a := r149) (b := pa) (c := 0) (e := 0) (nd := nd2_153) (e_nd := show G147 31 = nd2_153 from (e162))  (h_kind := ⟨(by decide), (by decide)⟩) (h_a := ⟨(Int.le_trans (by decide : (-2147483648 : Int) ≤ -2147483648) b158.1), (Int.le_trans b158.2 (by decide : (2147483647 : Int) ≤ 2147483647))⟩) (h_b := ⟨(Int.le_trans (by decide : (-2147483648 : Int) ≤ -2147483648) h_pa.1), (Int.le_trans h_pa.2 (by decide : (2147483647 : Int) ≤ 2147483647))⟩) (h_c := ⟨(by decide), (by decide)⟩) (h_e := ⟨(by decide), (by decide)⟩)  (p_0 := by omega) (p_1 := by omega)) (fun o V' hq => ?_)
                        obtain ⟨G193, A194, nd2_195, rfl, rfl, hW196, hF197, hQ198, e199, p200, -⟩ := hq
                        have hF202 := Fr_tr hF171 hF197 (Fr_sub (by decide)) (Fr_sub (by decide))
                        have hP203 := Pf_tr hP172 hQ198 (by omega)
                        have bnd2_195 : (0 : Int) ≤ nd2_195 ∧ nd2_195 ≤ 6999 := e199 ▸ hW196.1 31
                        refine .inr ⟨_, rfl, ?_⟩
                        refine jx_rt (v := some (.int (i32 (nd2_153)))) rfl rfl rfl rfl rfl rfl ?_
                        have z204 := tz_f (tk2_154)
                        exact ⟨_, _, _, at2_150, fk2_151, op2_152, nd2_195, tk2_154, rfl, rfl, hW196, hF202, hP203, by omega, ((hF197.1 10 rfl).trans (e159)), ((hF197.1 16 rfl).trans (e160)), ((hF197.1 15 rfl).trans (e161)), (e199), ((hF197.1 11 rfl).trans (e163)), by omega, by omega, by omega, by omega, by omega, by omega, by first | exact Or.inl (⟨by omega, by omega, by omega⟩) | exact Or.inr ((⟨by omega, by omega, by omega, by omega, by omega⟩))⟩
                  · have _q := h87
                    refine jx_ld (pc' := 139) (l' := L65) (st' := [.ref 66]) rfl (jl_aloadn gL65_0) ?_
                    refine jx_ar (pc' := 140) (st' := [.int (i32 (2)), .ref 66]) rfl rfl rfl rfl ?_
                    refine jx_ld (pc' := 142) (l' := L65) (st' := [.int (i32 (r43)), .int (i32 (2)), .ref 66]) rfl (jl_iload gL65_5) ?_
                    refine jx_ar (pc' := 143) (st' := [.int (i32 (0)), .int (i32 (r43)), .int (i32 (2)), .ref 66]) rfl rfl rfl rfl ?_
                    refine jx_ar (pc' := 144) (st' := [.int (i32 (0)), .int (i32 (0)), .int (i32 (r43)), .int (i32 (2)), .ref 66]) rfl rfl rfl rfl ?_
                    refine jx_ar (pc' := 145) (st' := [.int (i32 (0)), .int (i32 (0)), .int (i32 (0)), .int (i32 (r43)), .int (i32 (2)), .ref 66]) rfl rfl rfl rfl ?_
                    refine jx_vr (pc' := 148) (as := [.int (i32 (2)), .int (i32 (r43)), .int (i32 (0)), .int (i32 (0)), .int (i32 (0))]) (st := []) rfl rfl rfl rfl ⟨rfl, rfl, Nat.le_of_ble_eq_true rfl⟩ rfl rfl (c_node (dd := d) (hd := by omega) (hW := hW77) (kind := 2) (a := r43) (b := 0) (c := 0) (e := 0) (nd := nd) (e_nd := show G73 31 = nd from ((hF78.1 31 rfl).trans ((hF46.1 31 rfl).trans (e_nd))))  (h_kind := ⟨(by decide), (by decide)⟩) (h_a := ⟨(Int.le_trans (by decide : (-2147483648 : Int) ≤ -2147483648) b47.1), (Int.le_trans b47.2 (by decide : (2147483647 : Int) ≤ 2147483647))⟩) (h_b := ⟨(by decide), (by decide)⟩) (h_c := ⟨(by decide), (by decide)⟩) (h_e := ⟨(by decide), (by decide)⟩)  (p_0 := by omega) (p_1 := by omega)) (fun o V' hq => ?_)
                    obtain ⟨G205, A206, nd2_207, rfl, rfl, hW208, hF209, hQ210, e211, p212, -⟩ := hq
                    have hF214 := Fr_tr hF85 hF209 (Fr_sub (by decide)) (Fr_sub (by decide))
                    have hP215 := Pf_tr hP86 hQ210 (by omega)
                    have bnd2_207 : (0 : Int) ≤ nd2_207 ∧ nd2_207 ≤ 6999 := e211 ▸ hW208.1 31
                    refine .inr ⟨_, rfl, ?_⟩
                    refine jx_ld (pc' := 149) (l' := jSto1 L65 3 (.int (i32 (nd)))) (st' := []) rfl rfl ?_
                    obtain ⟨L216, eL216⟩ : ∃ q, q = jSto1 L65 3 (.int (i32 (nd))) := ⟨_, rfl⟩
                    rw [← eL216]
                    have gL216_0 : jGet L216 0 = some (.ref 66) := eL216 ▸ jg_ne (by decide) gL65_0 rfl
                    have gL216_1 : jGet L216 1 = some (.int (i32 (pa))) := eL216 ▸ jg_ne (by decide) gL65_1 rfl
                    have gL216_2 : jGet L216 2 = some (.int (i32 (A 7 (pa).toNat))) := eL216 ▸ jg_ne (by decide) gL65_2 rfl
                    have gL216_4 : jGet L216 4 = some (.int (i32 (G 12))) := eL216 ▸ jg_ne (by decide) gL65_4 rfl
                    have gL216_5 : jGet L216 5 = some (.int (i32 (r43))) := eL216 ▸ jg_ne (by decide) gL65_5 rfl
                    have gL216_3 : jGet L216 3 = some (.int (i32 (nd))) := eL216 ▸ jg_eq
                    refine jx_go (tg := 172) rfl rfl ?_
                    refine jx_ld (pc' := 173) (l' := L216) (st' := [.ref 66]) rfl (jl_aloadn gL216_0) ?_
                    refine jx_ar (pc' := 175) (st' := [.int (i32 (7)), .ref 66]) rfl rfl rfl rfl ?_
                    refine jx_ld (pc' := 176) (l' := L216) (st' := [.int (i32 (nd)), .int (i32 (7)), .ref 66]) rfl (jl_iloadn gL216_3) ?_
                    refine jx_ld (pc' := 177) (l' := L216) (st' := [.int (i32 (pa)), .int (i32 (nd)), .int (i32 (7)), .ref 66]) rfl (jl_iloadn gL216_1) ?_
                    refine jx_ar (pc' := 178) (st' := [.int (i32 (0)), .int (i32 (pa)), .int (i32 (nd)), .int (i32 (7)), .ref 66]) rfl rfl rfl rfl ?_
                    refine jx_ar (pc' := 179) (st' := [.int (i32 (0)), .int (i32 (0)), .int (i32 (pa)), .int (i32 (nd)), .int (i32 (7)), .ref 66]) rfl rfl rfl rfl ?_
                    refine jx_vr (pc' := 182) (as := [.int (i32 (7)), .int (i32 (nd)), .int (i32 (pa)), .int (i32 (0)), .int (i32 (0))]) (st := []) rfl rfl rfl rfl ⟨rfl, rfl, Nat.le_of_ble_eq_true rfl⟩ rfl rfl (c_node (dd := d) (hd := by omega) (hW := hW208) (kind := 7) (a := nd) (b := pa) (c := 0) (e := 0) (nd := nd2_207) (e_nd := show G205 31 = nd2_207 from (e211))  (h_kind := ⟨(by decide), (by decide)⟩) (h_a := ⟨(Int.le_trans (by decide : (-2147483648 : Int) ≤ 0) b_nd.1), (Int.le_trans b_nd.2 (by decide : (6999 : Int) ≤ 2147483647))⟩) (h_b := ⟨(Int.le_trans (by decide : (-2147483648 : Int) ≤ -2147483648) h_pa.1), (Int.le_trans h_pa.2 (by decide : (2147483647 : Int) ≤ 2147483647))⟩) (h_c := ⟨(by decide), (by decide)⟩) (h_e := ⟨(by decide), (by decide)⟩)  (p_0 := by omega) (p_1 := by omega)) (fun o V' hq => ?_)
                    obtain ⟨G217, A218, nd2_219, rfl, rfl, hW220, hF221, hQ222, e223, p224, -⟩ := hq
                    have hF226 := Fr_tr hF214 hF221 (Fr_sub (by decide)) (Fr_sub (by decide))
                    have hP227 := Pf_tr hP215 hQ222 (by omega)
                    have bnd2_219 : (0 : Int) ≤ nd2_219 ∧ nd2_219 ≤ 6999 := e223 ▸ hW220.1 31
                    refine .inr ⟨_, rfl, ?_⟩
                    refine jx_rt (v := some (.int (i32 (nd2_207)))) rfl rfl rfl rfl rfl rfl ?_
                    have z228 := tz_f (tk2_76)
                    exact ⟨_, _, _, at2_75, fk2_44, op0, nd2_219, tk2_76, rfl, rfl, hW220, hF226, hP227, by omega, ((hF221.1 10 rfl).trans ((hF209.1 10 rfl).trans (e79))), ((hF221.1 16 rfl).trans ((hF209.1 16 rfl).trans ((hF78.1 16 rfl).trans (e48)))), ((hF221.1 15 rfl).trans ((hF209.1 15 rfl).trans ((hF78.1 15 rfl).trans ((hF46.1 15 rfl).trans (e_op0))))), (e223), ((hF221.1 11 rfl).trans ((hF209.1 11 rfl).trans (e80))), by omega, by omega, by omega, by omega, by omega, by omega, by first | exact Or.inl (⟨by omega, by omega, by omega⟩) | exact Or.inr ((⟨by omega, by omega, by omega, by omega, by omega⟩))⟩
                · have _q := h72
                  refine jx_ld (pc' := 91) (l' := L65) (st' := [.ref 66]) rfl (jl_aloadn gL65_0) ?_
                  refine jr_get (pc' := 94) (i := 21) (v := .ref 74) rfl rfl (by decide) rfl rfl ?_
                  refine jx_ld (pc' := 96) (l' := L65) (st' := [.int (i32 (r43)), .ref 74]) rfl (jl_iload gL65_5) ?_
                  have b229 : (0 : Int) ≤ A 7 (r43).toNat ∧ A 7 (r43).toNat ≤ 14 := hW.2 7 _
                  refine jr_ldv (pc' := 97) (i := 7) (m := 260) (z := r43) (y := A 7 (r43).toNat) rfl (by decide) rfl (by decide) (by omega) (by omega) rfl (show A42 7 (r43).toNat = A 7 (r43).toNat from (congrFun (hF46.2 7 rfl) _)) ?_
                  refine jx_st (pc' := 100) (as := [.int (i32 (A 7 (r43).toNat))]) (st := []) rfl rfl ⟨rfl, Nat.le_of_ble_eq_true rfl⟩ rfl rfl rfl (c_isArray (dd := d) (hd := by omega) (k := A 7 (r43).toNat)   (h_k := ⟨(Int.le_trans (by decide : (-2147483648 : Int) ≤ 0) b229.1), (Int.le_trans b229.2 (by decide : (14 : Int) ≤ 2147483647))⟩)  ) (fun o V' hq => ?_)
                  obtain ⟨r230, rfl, rfl, b231, q232⟩ := hq
                  refine .inr ⟨_, rfl, ?_⟩
                  rcases q232 with rfl | rfl
                  · have _q : True := trivial
                    refine jx_if_eq (pc' := 103) (tg := 119) rfl rfl rfl (by decide) (by decide) (fun h233 => ?_) (fun h233 => ?_)
                    · have _q := h233
                      exact absurd h233 (by omega)
                    · have _q := h233
                      refine jx_ld (pc' := 104) (l' := L65) (st' := [.ref 66]) rfl (jl_aloadn gL65_0) ?_
                      refine jr_get (pc' := 107) (i := 22) (v := .ref 75) rfl rfl (by decide) rfl rfl ?_
                      refine jx_ld (pc' := 109) (l' := L65) (st' := [.int (i32 (r43)), .ref 75]) rfl (jl_iload gL65_5) ?_
                      have b234 : (-2147483648 : Int) ≤ A 8 (r43).toNat ∧ A 8 (r43).toNat ≤ 2147483647 := hW.2 8 _
                      refine jr_ldv (pc' := 110) (i := 8) (m := 260) (z := r43) (y := A 8 (r43).toNat) rfl (by decide) rfl (by decide) (by omega) (by omega) rfl (show A42 8 (r43).toNat = A 8 (r43).toNat from (congrFun (hF46.2 8 rfl) _)) ?_
                      refine jx_ld (pc' := 111) (l' := L65) (st' := [.ref 66, .int (i32 (A 8 (r43).toNat))]) rfl (jl_aloadn gL65_0) ?_
                      refine jr_get (pc' := 114) (i := 22) (v := .ref 75) rfl rfl (by decide) rfl rfl ?_
                      refine jx_ld (pc' := 115) (l' := L65) (st' := [.int (i32 (pa)), .ref 75, .int (i32 (A 8 (r43).toNat))]) rfl (jl_iloadn gL65_1) ?_
                      have b235 : (-2147483648 : Int) ≤ A 8 (pa).toNat ∧ A 8 (pa).toNat ≤ 2147483647 := hW.2 8 _
                      refine jr_ldv (pc' := 116) (i := 8) (m := 260) (z := pa) (y := A 8 (pa).toNat) rfl (by decide) rfl (by decide) (by omega) (by omega) rfl (show A42 8 (pa).toNat = A 8 (pa).toNat from (congrFun (hF46.2 8 rfl) _)) ?_
                      refine jx_icmp_eq (pc' := 119) (tg := 128) rfl rfl rfl (Int.le_trans (by decide : (-2147483648 : Int) ≤ -2147483648) b234.1) (Int.le_trans b234.2 (by decide : (2147483647 : Int) ≤ 2147483647)) (Int.le_trans (by decide : (-2147483648 : Int) ≤ -2147483648) b235.1) (Int.le_trans b235.2 (by decide : (2147483647 : Int) ≤ 2147483647)) (fun h236 => ?_) (fun h236 => ?_)
                      · have _q := h236
                        refine jx_ld (pc' := 129) (l' := L65) (st' := [.ref 66]) rfl (jl_aloadn gL65_0) ?_
                        refine jx_vr (pc' := 132) (as := []) (st := []) rfl rfl rfl rfl ⟨rfl, rfl, Nat.le_of_ble_eq_true rfl⟩ rfl rfl (c_next (dd := d) (hd := by omega) (hW := hW45)  (ln := ln) (e_ln := show G41 9 = ln from ((hF46.1 9 rfl).trans (e_ln))) (le := le) (e_le := show A42 4 (ln).toNat = le from (congrFun (hF46.2 4 rfl) _).trans (e_le)) (at0 := at0) (e_at0 := show G41 10 = at0 from ((hF46.1 10 rfl).trans (e_at0)))    (p_0 := by omega)) (fun o V' hq => ?_)
                        obtain ⟨G237, A238, at2_239, tk2_240, rfl, rfl, hW241, hF242, e243, e244, p245, p246, p247, -⟩ := hq
                        have hF249 := Fr_tr hF50 hF242 (Fr_sub (by decide)) (Fr_sub (by decide))
                        have hP250 := Pf_f hP51 hF242 (by decide)
                        have bat2_239 : (0 : Int) ≤ at2_239 ∧ at2_239 ≤ 3002 := e243 ▸ hW241.1 10
                        have ztk2_240 := tz_b tk2_240
                        have btk2_240 : (0 : Int) ≤ tk2_240 ∧ tk2_240 ≤ 5 := e244 ▸ hW241.1 11
                        refine .inl ⟨rfl, ?_⟩
                        refine jx_ld (pc' := 133) (l' := L65) (st' := [.int (i32 (A 7 (pa).toNat))]) rfl (jl_iloadn gL65_2) ?_
                        refine jx_ar (pc' := 135) (st' := [.int (i32 (7)), .int (i32 (A 7 (pa).toNat))]) rfl rfl rfl rfl ?_
                        refine jx_icmp_ne (pc' := 138) (tg := 152) rfl rfl rfl (Int.le_trans (by decide : (-2147483648 : Int) ≤ 0) b1.1) (Int.le_trans b1.2 (by decide : (14 : Int) ≤ 2147483647)) (by decide) (by decide) (fun h251 => ?_) (fun h251 => ?_)
                        · have _q := h251
                          refine jx_ld (pc' := 153) (l' := L65) (st' := [.ref 66]) rfl (jl_aloadn gL65_0) ?_
                          refine jx_ld (pc' := 155) (l' := L65) (st' := [.int (i32 (r43)), .ref 66]) rfl (jl_iload gL65_5) ?_
                          refine jx_ld (pc' := 157) (l' := L65) (st' := [.int (i32 (G 12)), .int (i32 (r43)), .ref 66]) rfl (jl_iload gL65_4) ?_
                          refine jx_ld (pc' := 158) (l' := L65) (st' := [.int (i32 (A 7 (pa).toNat)), .int (i32 (G 12)), .int (i32 (r43)), .ref 66]) rfl (jl_iloadn gL65_2) ?_
                          refine jx_ar (pc' := 160) (st' := [.int (i32 (8)), .int (i32 (A 7 (pa).toNat)), .int (i32 (G 12)), .int (i32 (r43)), .ref 66]) rfl rfl rfl rfl ?_
                          refine jx_icmp_ne (pc' := 163) (tg := 167) rfl rfl rfl (Int.le_trans (by decide : (-2147483648 : Int) ≤ 0) b1.1) (Int.le_trans b1.2 (by decide : (14 : Int) ≤ 2147483647)) (by decide) (by decide) (fun h252 => ?_) (fun h252 => ?_)
                          · have _q := h252
                            refine jx_ar (pc' := 168) (st' := [.int (i32 (0)), .int (i32 (G 12)), .int (i32 (r43)), .ref 66]) rfl rfl rfl rfl ?_
                            refine jx_vr (pc' := 171) (as := [.int (i32 (r43)), .int (i32 (G 12)), .int (i32 (0))]) (st := []) rfl rfl rfl rfl ⟨rfl, rfl, Nat.le_of_ble_eq_true rfl⟩ rfl rfl (c_readBehind (dd := d) (hd := by omega) (hW := hW241) (s := r43) (place := G 12) (ch := 0) (ln := ln) (e_ln := show G237 9 = ln from ((hF242.1 9 rfl).trans ((hF46.1 9 rfl).trans (e_ln)))) (le := le) (e_le := show A238 4 (ln).toNat = le from (congrFun ((hF242.2 4 rfl).trans (hF46.2 4 rfl)) _).trans (e_le)) (at0 := at2_239) (e_at0 := show G237 10 = at2_239 from (e243)) (fk := fk2_44) (e_fk := show G237 16 = fk2_44 from ((hF242.1 16 rfl).trans (e48))) (op0 := op0) (e_op0 := show G237 15 = op0 from ((hF242.1 15 rfl).trans ((hF46.1 15 rfl).trans (e_op0)))) (nd := nd) (e_nd := show G237 31 = nd from ((hF242.1 31 rfl).trans ((hF46.1 31 rfl).trans (e_nd)))) (tk0 := tk2_240) (e_tk0 := show G237 11 = tk2_240 from (e244))  (h_s := ⟨(Int.le_trans (by decide : (-2147483648 : Int) ≤ -2147483648) b47.1), (Int.le_trans b47.2 (by decide : (2147483647 : Int) ≤ 2147483647))⟩) (h_place := ⟨(Int.le_trans (by decide : (-2147483648 : Int) ≤ -3000) b39.1), (Int.le_trans b39.2 (by decide : (3002 : Int) ≤ 2147483647))⟩) (h_ch := ⟨(by decide), (by decide)⟩)  (p_0 := by omega) (p_1 := by omega) (p_2 := by omega) (p_3 := by omega) (p_4 := by omega) (p_5 := by omega) (p_6 := by omega) (p_7 := by omega) (p_8 := by omega)) (fun o V' hq => ?_)
                            obtain ⟨G253, A254, r255, at2_256, fk2_257, op2_258, nd2_259, tk2_260, rfl, rfl, hW261, hF262, hQ263, b264, e265, e266, e267, e268, e269, p270, p271, p272, p273, p274, p275, q276⟩ := hq
                            have hF277 := Fr_tr hF249 hF262 (Fr_sub (by decide)) (Fr_sub (by decide))
                            have hP278 := Pf_tr hP250 hQ263 (by omega)
                            have bat2_256 : (0 : Int) ≤ at2_256 ∧ at2_256 ≤ 3002 := e265 ▸ hW261.1 10
                            have bfk2_257 : (0 : Int) ≤ fk2_257 ∧ fk2_257 ≤ 6 := e266 ▸ hW261.1 16
                            have bop2_258 : (-2147483648 : Int) ≤ op2_258 ∧ op2_258 ≤ 2147483647 := e267 ▸ hW261.1 15
                            have bnd2_259 : (0 : Int) ≤ nd2_259 ∧ nd2_259 ≤ 6999 := e268 ▸ hW261.1 31
                            have ztk2_260 := tz_b tk2_260
                            have btk2_260 : (0 : Int) ≤ tk2_260 ∧ tk2_260 ≤ 5 := e269 ▸ hW261.1 11
                            refine .inr ⟨_, rfl, ?_⟩
                            rcases q276 with ⟨a279, a280, a281⟩ | ⟨a282, a283, a284⟩
                            · have _q : True := trivial
                              refine jx_ld (pc' := 172) (l' := jSto1 L65 3 (.int (i32 (r255)))) (st' := []) rfl rfl ?_
                              obtain ⟨L285, eL285⟩ : ∃ q, q = jSto1 L65 3 (.int (i32 (r255))) := ⟨_, rfl⟩
                              rw [← eL285]
                              have gL285_0 : jGet L285 0 = some (.ref 66) := eL285 ▸ jg_ne (by decide) gL65_0 rfl
                              have gL285_1 : jGet L285 1 = some (.int (i32 (pa))) := eL285 ▸ jg_ne (by decide) gL65_1 rfl
                              have gL285_2 : jGet L285 2 = some (.int (i32 (A 7 (pa).toNat))) := eL285 ▸ jg_ne (by decide) gL65_2 rfl
                              have gL285_4 : jGet L285 4 = some (.int (i32 (G 12))) := eL285 ▸ jg_ne (by decide) gL65_4 rfl
                              have gL285_5 : jGet L285 5 = some (.int (i32 (r43))) := eL285 ▸ jg_ne (by decide) gL65_5 rfl
                              have gL285_3 : jGet L285 3 = some (.int (i32 (r255))) := eL285 ▸ jg_eq
                              refine jx_ld (pc' := 173) (l' := L285) (st' := [.ref 66]) rfl (jl_aloadn gL285_0) ?_
                              refine jx_ar (pc' := 175) (st' := [.int (i32 (7)), .ref 66]) rfl rfl rfl rfl ?_
                              refine jx_ld (pc' := 176) (l' := L285) (st' := [.int (i32 (r255)), .int (i32 (7)), .ref 66]) rfl (jl_iloadn gL285_3) ?_
                              refine jx_ld (pc' := 177) (l' := L285) (st' := [.int (i32 (pa)), .int (i32 (r255)), .int (i32 (7)), .ref 66]) rfl (jl_iloadn gL285_1) ?_
                              refine jx_ar (pc' := 178) (st' := [.int (i32 (0)), .int (i32 (pa)), .int (i32 (r255)), .int (i32 (7)), .ref 66]) rfl rfl rfl rfl ?_
                              refine jx_ar (pc' := 179) (st' := [.int (i32 (0)), .int (i32 (0)), .int (i32 (pa)), .int (i32 (r255)), .int (i32 (7)), .ref 66]) rfl rfl rfl rfl ?_
                              refine jx_vr (pc' := 182) (as := [.int (i32 (7)), .int (i32 (r255)), .int (i32 (pa)), .int (i32 (0)), .int (i32 (0))]) (st := []) rfl rfl rfl rfl ⟨rfl, rfl, Nat.le_of_ble_eq_true rfl⟩ rfl rfl (c_node (dd := d) (hd := by omega) (hW := hW261) (kind := 7) (a := r255) (b := pa) (c := 0) (e := 0) (nd := nd2_259) (e_nd := show G253 31 = nd2_259 from (e268))  (h_kind := ⟨(by decide), (by decide)⟩) (h_a := ⟨(Int.le_trans (by decide : (-2147483648 : Int) ≤ -2147483648) b264.1), (Int.le_trans b264.2 (by decide : (2147483647 : Int) ≤ 2147483647))⟩) (h_b := ⟨(Int.le_trans (by decide : (-2147483648 : Int) ≤ -2147483648) h_pa.1), (Int.le_trans h_pa.2 (by decide : (2147483647 : Int) ≤ 2147483647))⟩) (h_c := ⟨(by decide), (by decide)⟩) (h_e := ⟨(by decide), (by decide)⟩)  (p_0 := by omega) (p_1 := by omega)) (fun o V' hq => ?_)
                              obtain ⟨G286, A287, nd2_288, rfl, rfl, hW289, hF290, hQ291, e292, p293, -⟩ := hq
                              have hF295 := Fr_tr hF277 hF290 (Fr_sub (by decide)) (Fr_sub (by decide))
                              have hP296 := Pf_tr hP278 hQ291 (by omega)
                              have bnd2_288 : (0 : Int) ≤ nd2_288 ∧ nd2_288 ≤ 6999 := e292 ▸ hW289.1 31
                              refine .inr ⟨_, rfl, ?_⟩
                              refine jx_rt (v := some (.int (i32 (nd2_259)))) rfl rfl rfl rfl rfl rfl ?_
                              have z297 := tz_f (tk2_260)
                              exact ⟨_, _, _, at2_256, fk2_257, op2_258, nd2_288, tk2_260, rfl, rfl, hW289, hF295, hP296, by omega, ((hF290.1 10 rfl).trans (e265)), ((hF290.1 16 rfl).trans (e266)), ((hF290.1 15 rfl).trans (e267)), (e292), ((hF290.1 11 rfl).trans (e269)), by omega, by omega, by omega, by omega, by omega, by omega, by first | exact Or.inl (⟨by omega, by omega, by omega⟩) | exact Or.inr ((⟨by omega, by omega, by omega, by omega, by omega⟩))⟩
                            · have _q : True := trivial
                              refine jx_ld (pc' := 172) (l' := jSto1 L65 3 (.int (i32 (r255)))) (st' := []) rfl rfl ?_
                              obtain ⟨L298, eL298⟩ : ∃ q, q = jSto1 L65 3 (.int (i32 (r255))) := ⟨_, rfl⟩
                              rw [← eL298]
                              have gL298_0 : jGet L298 0 = some (.ref 66) := eL298 ▸ jg_ne (by decide) gL65_0 rfl
                              have gL298_1 : jGet L298 1 = some (.int (i32 (pa))) := eL298 ▸ jg_ne (by decide) gL65_1 rfl
                              have gL298_2 : jGet L298 2 = some (.int (i32 (A 7 (pa).toNat))) := eL298 ▸ jg_ne (by decide) gL65_2 rfl
                              have gL298_4 : jGet L298 4 = some (.int (i32 (G 12))) := eL298 ▸ jg_ne (by decide) gL65_4 rfl
                              have gL298_5 : jGet L298 5 = some (.int (i32 (r43))) := eL298 ▸ jg_ne (by decide) gL65_5 rfl
                              have gL298_3 : jGet L298 3 = some (.int (i32 (r255))) := eL298 ▸ jg_eq
                              refine jx_ld (pc' := 173) (l' := L298) (st' := [.ref 66]) rfl (jl_aloadn gL298_0) ?_
                              refine jx_ar (pc' := 175) (st' := [.int (i32 (7)), .ref 66]) rfl rfl rfl rfl ?_
                              refine jx_ld (pc' := 176) (l' := L298) (st' := [.int (i32 (r255)), .int (i32 (7)), .ref 66]) rfl (jl_iloadn gL298_3) ?_
                              refine jx_ld (pc' := 177) (l' := L298) (st' := [.int (i32 (pa)), .int (i32 (r255)), .int (i32 (7)), .ref 66]) rfl (jl_iloadn gL298_1) ?_
                              refine jx_ar (pc' := 178) (st' := [.int (i32 (0)), .int (i32 (pa)), .int (i32 (r255)), .int (i32 (7)), .ref 66]) rfl rfl rfl rfl ?_
                              refine jx_ar (pc' := 179) (st' := [.int (i32 (0)), .int (i32 (0)), .int (i32 (pa)), .int (i32 (r255)), .int (i32 (7)), .ref 66]) rfl rfl rfl rfl ?_
                              refine jx_vr (pc' := 182) (as := [.int (i32 (7)), .int (i32 (r255)), .int (i32 (pa)), .int (i32 (0)), .int (i32 (0))]) (st := []) rfl rfl rfl rfl ⟨rfl, rfl, Nat.le_of_ble_eq_true rfl⟩ rfl rfl (c_node (dd := d) (hd := by omega) (hW := hW261) (kind := 7) (a := r255) (b := pa) (c := 0) (e := 0) (nd := nd2_259) (e_nd := show G253 31 = nd2_259 from (e268))  (h_kind := ⟨(by decide), (by decide)⟩) (h_a := ⟨(Int.le_trans (by decide : (-2147483648 : Int) ≤ -2147483648) b264.1), (Int.le_trans b264.2 (by decide : (2147483647 : Int) ≤ 2147483647))⟩) (h_b := ⟨(Int.le_trans (by decide : (-2147483648 : Int) ≤ -2147483648) h_pa.1), (Int.le_trans h_pa.2 (by decide : (2147483647 : Int) ≤ 2147483647))⟩) (h_c := ⟨(by decide), (by decide)⟩) (h_e := ⟨(by decide), (by decide)⟩)  (p_0 := by omega) (p_1 := by omega)) (fun o V' hq => ?_)
                              obtain ⟨G299, A300, nd2_301, rfl, rfl, hW302, hF303, hQ304, e305, p306, -⟩ := hq
                              have hF308 := Fr_tr hF277 hF303 (Fr_sub (by decide)) (Fr_sub (by decide))
                              have hP309 := Pf_tr hP278 hQ304 (by omega)
                              have bnd2_301 : (0 : Int) ≤ nd2_301 ∧ nd2_301 ≤ 6999 := e305 ▸ hW302.1 31
                              refine .inr ⟨_, rfl, ?_⟩
                              refine jx_rt (v := some (.int (i32 (nd2_259)))) rfl rfl rfl rfl rfl rfl ?_
                              have z310 := tz_f (tk2_260)
                              exact ⟨_, _, _, at2_256, fk2_257, op2_258, nd2_301, tk2_260, rfl, rfl, hW302, hF308, hP309, by omega, ((hF303.1 10 rfl).trans (e265)), ((hF303.1 16 rfl).trans (e266)), ((hF303.1 15 rfl).trans (e267)), (e305), ((hF303.1 11 rfl).trans (e269)), by omega, by omega, by omega, by omega, by omega, by omega, by first | exact Or.inl (⟨by omega, by omega, by omega⟩) | exact Or.inr ((⟨by omega, by omega, by omega, by omega, by omega⟩))⟩
                          · have _q := h252
                            refine jx_ar (pc' := 164) (st' := [.int (i32 (1)), .int (i32 (G 12)), .int (i32 (r43)), .ref 66]) rfl rfl rfl rfl ?_
                            refine jx_go (tg := 168) rfl rfl ?_
                            refine jx_vr (pc' := 171) (as := [.int (i32 (r43)), .int (i32 (G 12)), .int (i32 (1))]) (st := []) rfl rfl rfl rfl ⟨rfl, rfl, Nat.le_of_ble_eq_true rfl⟩ rfl rfl (c_readBehind (dd := d) (hd := by omega) (hW := hW241) (s := r43) (place := G 12) (ch := 1) (ln := ln) (e_ln := show G237 9 = ln from ((hF242.1 9 rfl).trans ((hF46.1 9 rfl).trans (e_ln)))) (le := le) (e_le := show A238 4 (ln).toNat = le from (congrFun ((hF242.2 4 rfl).trans (hF46.2 4 rfl)) _).trans (e_le)) (at0 := at2_239) (e_at0 := show G237 10 = at2_239 from (e243)) (fk := fk2_44) (e_fk := show G237 16 = fk2_44 from ((hF242.1 16 rfl).trans (e48))) (op0 := op0) (e_op0 := show G237 15 = op0 from ((hF242.1 15 rfl).trans ((hF46.1 15 rfl).trans (e_op0)))) (nd := nd) (e_nd := show G237 31 = nd from ((hF242.1 31 rfl).trans ((hF46.1 31 rfl).trans (e_nd)))) (tk0 := tk2_240) (e_tk0 := show G237 11 = tk2_240 from (e244))  (h_s := ⟨(Int.le_trans (by decide : (-2147483648 : Int) ≤ -2147483648) b47.1), (Int.le_trans b47.2 (by decide : (2147483647 : Int) ≤ 2147483647))⟩) (h_place := ⟨(Int.le_trans (by decide : (-2147483648 : Int) ≤ -3000) b39.1), (Int.le_trans b39.2 (by decide : (3002 : Int) ≤ 2147483647))⟩) (h_ch := ⟨(by decide), (by decide)⟩)  (p_0 := by omega) (p_1 := by omega) (p_2 := by omega) (p_3 := by omega) (p_4 := by omega) (p_5 := by omega) (p_6 := by omega) (p_7 := by omega) (p_8 := by omega)) (fun o V' hq => ?_)
                            obtain ⟨G311, A312, r313, at2_314, fk2_315, op2_316, nd2_317, tk2_318, rfl, rfl, hW319, hF320, hQ321, b322, e323, e324, e325, e326, e327, p328, p329, p330, p331, p332, p333, q334⟩ := hq
                            have hF335 := Fr_tr hF249 hF320 (Fr_sub (by decide)) (Fr_sub (by decide))
                            have hP336 := Pf_tr hP250 hQ321 (by omega)
                            have bat2_314 : (0 : Int) ≤ at2_314 ∧ at2_314 ≤ 3002 := e323 ▸ hW319.1 10
                            have bfk2_315 : (0 : Int) ≤ fk2_315 ∧ fk2_315 ≤ 6 := e324 ▸ hW319.1 16
                            have bop2_316 : (-2147483648 : Int) ≤ op2_316 ∧ op2_316 ≤ 2147483647 := e325 ▸ hW319.1 15
                            have bnd2_317 : (0 : Int) ≤ nd2_317 ∧ nd2_317 ≤ 6999 := e326 ▸ hW319.1 31
                            have ztk2_318 := tz_b tk2_318
                            have btk2_318 : (0 : Int) ≤ tk2_318 ∧ tk2_318 ≤ 5 := e327 ▸ hW319.1 11
                            refine .inr ⟨_, rfl, ?_⟩
                            rcases q334 with ⟨a337, a338, a339⟩ | ⟨a340, a341, a342⟩
                            · have _q : True := trivial
                              refine jx_ld (pc' := 172) (l' := jSto1 L65 3 (.int (i32 (r313)))) (st' := []) rfl rfl ?_
                              obtain ⟨L343, eL343⟩ : ∃ q, q = jSto1 L65 3 (.int (i32 (r313))) := ⟨_, rfl⟩
                              rw [← eL343]
                              have gL343_0 : jGet L343 0 = some (.ref 66) := eL343 ▸ jg_ne (by decide) gL65_0 rfl
                              have gL343_1 : jGet L343 1 = some (.int (i32 (pa))) := eL343 ▸ jg_ne (by decide) gL65_1 rfl
                              have gL343_2 : jGet L343 2 = some (.int (i32 (A 7 (pa).toNat))) := eL343 ▸ jg_ne (by decide) gL65_2 rfl
                              have gL343_4 : jGet L343 4 = some (.int (i32 (G 12))) := eL343 ▸ jg_ne (by decide) gL65_4 rfl
                              have gL343_5 : jGet L343 5 = some (.int (i32 (r43))) := eL343 ▸ jg_ne (by decide) gL65_5 rfl
                              have gL343_3 : jGet L343 3 = some (.int (i32 (r313))) := eL343 ▸ jg_eq
                              refine jx_ld (pc' := 173) (l' := L343) (st' := [.ref 66]) rfl (jl_aloadn gL343_0) ?_
                              refine jx_ar (pc' := 175) (st' := [.int (i32 (7)), .ref 66]) rfl rfl rfl rfl ?_
                              refine jx_ld (pc' := 176) (l' := L343) (st' := [.int (i32 (r313)), .int (i32 (7)), .ref 66]) rfl (jl_iloadn gL343_3) ?_
                              refine jx_ld (pc' := 177) (l' := L343) (st' := [.int (i32 (pa)), .int (i32 (r313)), .int (i32 (7)), .ref 66]) rfl (jl_iloadn gL343_1) ?_
                              refine jx_ar (pc' := 178) (st' := [.int (i32 (0)), .int (i32 (pa)), .int (i32 (r313)), .int (i32 (7)), .ref 66]) rfl rfl rfl rfl ?_
                              refine jx_ar (pc' := 179) (st' := [.int (i32 (0)), .int (i32 (0)), .int (i32 (pa)), .int (i32 (r313)), .int (i32 (7)), .ref 66]) rfl rfl rfl rfl ?_
                              refine jx_vr (pc' := 182) (as := [.int (i32 (7)), .int (i32 (r313)), .int (i32 (pa)), .int (i32 (0)), .int (i32 (0))]) (st := []) rfl rfl rfl rfl ⟨rfl, rfl, Nat.le_of_ble_eq_true rfl⟩ rfl rfl (c_node (dd := d) (hd := by omega) (hW := hW319) (kind := 7) (a := r313) (b := pa) (c := 0) (e := 0) (nd := nd2_317) (e_nd := show G311 31 = nd2_317 from (e326))  (h_kind := ⟨(by decide), (by decide)⟩) (h_a := ⟨(Int.le_trans (by decide : (-2147483648 : Int) ≤ -2147483648) b322.1), (Int.le_trans b322.2 (by decide : (2147483647 : Int) ≤ 2147483647))⟩) (h_b := ⟨(Int.le_trans (by decide : (-2147483648 : Int) ≤ -2147483648) h_pa.1), (Int.le_trans h_pa.2 (by decide : (2147483647 : Int) ≤ 2147483647))⟩) (h_c := ⟨(by decide), (by decide)⟩) (h_e := ⟨(by decide), (by decide)⟩)  (p_0 := by omega) (p_1 := by omega)) (fun o V' hq => ?_)
                              obtain ⟨G344, A345, nd2_346, rfl, rfl, hW347, hF348, hQ349, e350, p351, -⟩ := hq
                              have hF353 := Fr_tr hF335 hF348 (Fr_sub (by decide)) (Fr_sub (by decide))
                              have hP354 := Pf_tr hP336 hQ349 (by omega)
                              have bnd2_346 : (0 : Int) ≤ nd2_346 ∧ nd2_346 ≤ 6999 := e350 ▸ hW347.1 31
                              refine .inr ⟨_, rfl, ?_⟩
                              refine jx_rt (v := some (.int (i32 (nd2_317)))) rfl rfl rfl rfl rfl rfl ?_
                              have z355 := tz_f (tk2_318)
                              exact ⟨_, _, _, at2_314, fk2_315, op2_316, nd2_346, tk2_318, rfl, rfl, hW347, hF353, hP354, by omega, ((hF348.1 10 rfl).trans (e323)), ((hF348.1 16 rfl).trans (e324)), ((hF348.1 15 rfl).trans (e325)), (e350), ((hF348.1 11 rfl).trans (e327)), by omega, by omega, by omega, by omega, by omega, by omega, by first | exact Or.inl (⟨by omega, by omega, by omega⟩) | exact Or.inr ((⟨by omega, by omega, by omega, by omega, by omega⟩))⟩
                            · have _q : True := trivial
                              refine jx_ld (pc' := 172) (l' := jSto1 L65 3 (.int (i32 (r313)))) (st' := []) rfl rfl ?_
                              obtain ⟨L356, eL356⟩ : ∃ q, q = jSto1 L65 3 (.int (i32 (r313))) := ⟨_, rfl⟩
                              rw [← eL356]
                              have gL356_0 : jGet L356 0 = some (.ref 66) := eL356 ▸ jg_ne (by decide) gL65_0 rfl
                              have gL356_1 : jGet L356 1 = some (.int (i32 (pa))) := eL356 ▸ jg_ne (by decide) gL65_1 rfl
                              have gL356_2 : jGet L356 2 = some (.int (i32 (A 7 (pa).toNat))) := eL356 ▸ jg_ne (by decide) gL65_2 rfl
                              have gL356_4 : jGet L356 4 = some (.int (i32 (G 12))) := eL356 ▸ jg_ne (by decide) gL65_4 rfl
                              have gL356_5 : jGet L356 5 = some (.int (i32 (r43))) := eL356 ▸ jg_ne (by decide) gL65_5 rfl
                              have gL356_3 : jGet L356 3 = some (.int (i32 (r313))) := eL356 ▸ jg_eq
                              refine jx_ld (pc' := 173) (l' := L356) (st' := [.ref 66]) rfl (jl_aloadn gL356_0) ?_
                              refine jx_ar (pc' := 175) (st' := [.int (i32 (7)), .ref 66]) rfl rfl rfl rfl ?_
                              refine jx_ld (pc' := 176) (l' := L356) (st' := [.int (i32 (r313)), .int (i32 (7)), .ref 66]) rfl (jl_iloadn gL356_3) ?_
                              refine jx_ld (pc' := 177) (l' := L356) (st' := [.int (i32 (pa)), .int (i32 (r313)), .int (i32 (7)), .ref 66]) rfl (jl_iloadn gL356_1) ?_
                              refine jx_ar (pc' := 178) (st' := [.int (i32 (0)), .int (i32 (pa)), .int (i32 (r313)), .int (i32 (7)), .ref 66]) rfl rfl rfl rfl ?_
                              refine jx_ar (pc' := 179) (st' := [.int (i32 (0)), .int (i32 (0)), .int (i32 (pa)), .int (i32 (r313)), .int (i32 (7)), .ref 66]) rfl rfl rfl rfl ?_
                              refine jx_vr (pc' := 182) (as := [.int (i32 (7)), .int (i32 (r313)), .int (i32 (pa)), .int (i32 (0)), .int (i32 (0))]) (st := []) rfl rfl rfl rfl ⟨rfl, rfl, Nat.le_of_ble_eq_true rfl⟩ rfl rfl (c_node (dd := d) (hd := by omega) (hW := hW319) (kind := 7) (a := r313) (b := pa) (c := 0) (e := 0) (nd := nd2_317) (e_nd := show G311 31 = nd2_317 from (e326))  (h_kind := ⟨(by decide), (by decide)⟩) (h_a := ⟨(Int.le_trans (by decide : (-2147483648 : Int) ≤ -2147483648) b322.1), (Int.le_trans b322.2 (by decide : (2147483647 : Int) ≤ 2147483647))⟩) (h_b := ⟨(Int.le_trans (by decide : (-2147483648 : Int) ≤ -2147483648) h_pa.1), (Int.le_trans h_pa.2 (by decide : (2147483647 : Int) ≤ 2147483647))⟩) (h_c := ⟨(by decide), (by decide)⟩) (h_e := ⟨(by decide), (by decide)⟩)  (p_0 := by omega) (p_1 := by omega)) (fun o V' hq => ?_)
                              obtain ⟨G357, A358, nd2_359, rfl, rfl, hW360, hF361, hQ362, e363, p364, -⟩ := hq
                              have hF366 := Fr_tr hF335 hF361 (Fr_sub (by decide)) (Fr_sub (by decide))
                              have hP367 := Pf_tr hP336 hQ362 (by omega)
                              have bnd2_359 : (0 : Int) ≤ nd2_359 ∧ nd2_359 ≤ 6999 := e363 ▸ hW360.1 31
                              refine .inr ⟨_, rfl, ?_⟩
                              refine jx_rt (v := some (.int (i32 (nd2_317)))) rfl rfl rfl rfl rfl rfl ?_
                              have z368 := tz_f (tk2_318)
                              exact ⟨_, _, _, at2_314, fk2_315, op2_316, nd2_359, tk2_318, rfl, rfl, hW360, hF366, hP367, by omega, ((hF361.1 10 rfl).trans (e323)), ((hF361.1 16 rfl).trans (e324)), ((hF361.1 15 rfl).trans (e325)), (e363), ((hF361.1 11 rfl).trans (e327)), by omega, by omega, by omega, by omega, by omega, by omega, by first | exact Or.inl (⟨by omega, by omega, by omega⟩) | exact Or.inr ((⟨by omega, by omega, by omega, by omega, by omega⟩))⟩
                        · have _q := h251
                          refine jx_ld (pc' := 139) (l' := L65) (st' := [.ref 66]) rfl (jl_aloadn gL65_0) ?_
                          refine jx_ar (pc' := 140) (st' := [.int (i32 (2)), .ref 66]) rfl rfl rfl rfl ?_
                          refine jx_ld (pc' := 142) (l' := L65) (st' := [.int (i32 (r43)), .int (i32 (2)), .ref 66]) rfl (jl_iload gL65_5) ?_
                          refine jx_ar (pc' := 143) (st' := [.int (i32 (0)), .int (i32 (r43)), .int (i32 (2)), .ref 66]) rfl rfl rfl rfl ?_
                          refine jx_ar (pc' := 144) (st' := [.int (i32 (0)), .int (i32 (0)), .int (i32 (r43)), .int (i32 (2)), .ref 66]) rfl rfl rfl rfl ?_
                          refine jx_ar (pc' := 145) (st' := [.int (i32 (0)), .int (i32 (0)), .int (i32 (0)), .int (i32 (r43)), .int (i32 (2)), .ref 66]) rfl rfl rfl rfl ?_
                          refine jx_vr (pc' := 148) (as := [.int (i32 (2)), .int (i32 (r43)), .int (i32 (0)), .int (i32 (0)), .int (i32 (0))]) (st := []) rfl rfl rfl rfl ⟨rfl, rfl, Nat.le_of_ble_eq_true rfl⟩ rfl rfl (c_node (dd := d) (hd := by omega) (hW := hW241) (kind := 2) (a := r43) (b := 0) (c := 0) (e := 0) (nd := nd) (e_nd := show G237 31 = nd from ((hF242.1 31 rfl).trans ((hF46.1 31 rfl).trans (e_nd))))  (h_kind := ⟨(by decide), (by decide)⟩) (h_a := ⟨(Int.le_trans (by decide : (-2147483648 : Int) ≤ -2147483648) b47.1), (Int.le_trans b47.2 (by decide : (2147483647 : Int) ≤ 2147483647))⟩) (h_b := ⟨(by decide), (by decide)⟩) (h_c := ⟨(by decide), (by decide)⟩) (h_e := ⟨(by decide), (by decide)⟩)  (p_0 := by omega) (p_1 := by omega)) (fun o V' hq => ?_)
                          obtain ⟨G369, A370, nd2_371, rfl, rfl, hW372, hF373, hQ374, e375, p376, -⟩ := hq
                          have hF378 := Fr_tr hF249 hF373 (Fr_sub (by decide)) (Fr_sub (by decide))
                          have hP379 := Pf_tr hP250 hQ374 (by omega)
                          have bnd2_371 : (0 : Int) ≤ nd2_371 ∧ nd2_371 ≤ 6999 := e375 ▸ hW372.1 31
                          refine .inr ⟨_, rfl, ?_⟩
                          refine jx_ld (pc' := 149) (l' := jSto1 L65 3 (.int (i32 (nd)))) (st' := []) rfl rfl ?_
                          obtain ⟨L380, eL380⟩ : ∃ q, q = jSto1 L65 3 (.int (i32 (nd))) := ⟨_, rfl⟩
                          rw [← eL380]
                          have gL380_0 : jGet L380 0 = some (.ref 66) := eL380 ▸ jg_ne (by decide) gL65_0 rfl
                          have gL380_1 : jGet L380 1 = some (.int (i32 (pa))) := eL380 ▸ jg_ne (by decide) gL65_1 rfl
                          have gL380_2 : jGet L380 2 = some (.int (i32 (A 7 (pa).toNat))) := eL380 ▸ jg_ne (by decide) gL65_2 rfl
                          have gL380_4 : jGet L380 4 = some (.int (i32 (G 12))) := eL380 ▸ jg_ne (by decide) gL65_4 rfl
                          have gL380_5 : jGet L380 5 = some (.int (i32 (r43))) := eL380 ▸ jg_ne (by decide) gL65_5 rfl
                          have gL380_3 : jGet L380 3 = some (.int (i32 (nd))) := eL380 ▸ jg_eq
                          refine jx_go (tg := 172) rfl rfl ?_
                          refine jx_ld (pc' := 173) (l' := L380) (st' := [.ref 66]) rfl (jl_aloadn gL380_0) ?_
                          refine jx_ar (pc' := 175) (st' := [.int (i32 (7)), .ref 66]) rfl rfl rfl rfl ?_
                          refine jx_ld (pc' := 176) (l' := L380) (st' := [.int (i32 (nd)), .int (i32 (7)), .ref 66]) rfl (jl_iloadn gL380_3) ?_
                          refine jx_ld (pc' := 177) (l' := L380) (st' := [.int (i32 (pa)), .int (i32 (nd)), .int (i32 (7)), .ref 66]) rfl (jl_iloadn gL380_1) ?_
                          refine jx_ar (pc' := 178) (st' := [.int (i32 (0)), .int (i32 (pa)), .int (i32 (nd)), .int (i32 (7)), .ref 66]) rfl rfl rfl rfl ?_
                          refine jx_ar (pc' := 179) (st' := [.int (i32 (0)), .int (i32 (0)), .int (i32 (pa)), .int (i32 (nd)), .int (i32 (7)), .ref 66]) rfl rfl rfl rfl ?_
                          refine jx_vr (pc' := 182) (as := [.int (i32 (7)), .int (i32 (nd)), .int (i32 (pa)), .int (i32 (0)), .int (i32 (0))]) (st := []) rfl rfl rfl rfl ⟨rfl, rfl, Nat.le_of_ble_eq_true rfl⟩ rfl rfl (c_node (dd := d) (hd := by omega) (hW := hW372) (kind := 7) (a := nd) (b := pa) (c := 0) (e := 0) (nd := nd2_371) (e_nd := show G369 31 = nd2_371 from (e375))  (h_kind := ⟨(by decide), (by decide)⟩) (h_a := ⟨(Int.le_trans (by decide : (-2147483648 : Int) ≤ 0) b_nd.1), (Int.le_trans b_nd.2 (by decide : (6999 : Int) ≤ 2147483647))⟩) (h_b := ⟨(Int.le_trans (by decide : (-2147483648 : Int) ≤ -2147483648) h_pa.1), (Int.le_trans h_pa.2 (by decide : (2147483647 : Int) ≤ 2147483647))⟩) (h_c := ⟨(by decide), (by decide)⟩) (h_e := ⟨(by decide), (by decide)⟩)  (p_0 := by omega) (p_1 := by omega)) (fun o V' hq => ?_)
                          obtain ⟨G381, A382, nd2_383, rfl, rfl, hW384, hF385, hQ386, e387, p388, -⟩ := hq
                          have hF390 := Fr_tr hF378 hF385 (Fr_sub (by decide)) (Fr_sub (by decide))
                          have hP391 := Pf_tr hP379 hQ386 (by omega)
                          have bnd2_383 : (0 : Int) ≤ nd2_383 ∧ nd2_383 ≤ 6999 := e387 ▸ hW384.1 31
                          refine .inr ⟨_, rfl, ?_⟩
                          refine jx_rt (v := some (.int (i32 (nd2_371)))) rfl rfl rfl rfl rfl rfl ?_
                          have z392 := tz_f (tk2_240)
                          exact ⟨_, _, _, at2_239, fk2_44, op0, nd2_383, tk2_240, rfl, rfl, hW384, hF390, hP391, by omega, ((hF385.1 10 rfl).trans ((hF373.1 10 rfl).trans (e243))), ((hF385.1 16 rfl).trans ((hF373.1 16 rfl).trans ((hF242.1 16 rfl).trans (e48)))), ((hF385.1 15 rfl).trans ((hF373.1 15 rfl).trans ((hF242.1 15 rfl).trans ((hF46.1 15 rfl).trans (e_op0))))), (e387), ((hF385.1 11 rfl).trans ((hF373.1 11 rfl).trans (e244))), by omega, by omega, by omega, by omega, by omega, by omega, by first | exact Or.inl (⟨by omega, by omega, by omega⟩) | exact Or.inr ((⟨by omega, by omega, by omega, by omega, by omega⟩))⟩
                      · have _q := h236
                        refine jx_ld (pc' := 120) (l' := L65) (st' := [.ref 66]) rfl (jl_aloadn gL65_0) ?_
                        refine jx_ar (pc' := 121) (st' := [.int (i32 (4)), .ref 66]) rfl rfl rfl rfl ?_
                        refine jx_ld (pc' := 123) (l' := L65) (st' := [.int (i32 (G 12)), .int (i32 (4)), .ref 66]) rfl (jl_iload gL65_4) ?_
                        refine jx_vr (pc' := 126) (as := [.int (i32 (4)), .int (i32 (G 12))]) (st := []) rfl rfl rfl rfl ⟨rfl, rfl, Nat.le_of_ble_eq_true rfl⟩ rfl rfl (c_fail (dd := d) (hd := by omega) (hW := hW45) (kind := 4) (place := G 12) (fk := fk2_44) (e_fk := show G41 16 = fk2_44 from (e48))  (h_kind := ⟨(by decide), (by decide)⟩) (h_place := ⟨(Int.le_trans (by decide : (-2147483648 : Int) ≤ -3000) b39.1), (Int.le_trans b39.2 (by decide : (3002 : Int) ≤ 2147483647))⟩)  (p_0 := by omega) (p_1 := by omega)) (fun o V' hq => ?_)
                        obtain ⟨G393, A394, fk2_395, rfl, rfl, hW396, hF397, e398, p399, -⟩ := hq
                        have hF401 := Fr_tr hF50 hF397 (Fr_sub (by decide)) (Fr_sub (by decide))
                        have hP402 := Pf_f hP51 hF397 (by decide)
                        have bfk2_395 : (0 : Int) ≤ fk2_395 ∧ fk2_395 ≤ 6 := e398 ▸ hW396.1 16
                        refine .inl ⟨rfl, ?_⟩
                        refine jx_ar (pc' := 127) (st' := [.int (i32 (0))]) rfl rfl rfl rfl ?_
                        refine jx_rt (v := some (.int (i32 (0)))) rfl rfl rfl rfl rfl rfl ?_
                        have z403 := tz_f (tk0)
                        exact ⟨_, _, _, at0, fk2_395, op0, nd, tk0, rfl, rfl, hW396, hF401, hP402, by omega, ((hF397.1 10 rfl).trans ((hF46.1 10 rfl).trans (e_at0))), (e398), ((hF397.1 15 rfl).trans ((hF46.1 15 rfl).trans (e_op0))), ((hF397.1 31 rfl).trans ((hF46.1 31 rfl).trans (e_nd))), ((hF397.1 11 rfl).trans ((hF46.1 11 rfl).trans (e_tk0))), by omega, by omega, by omega, by omega, by omega, by omega, by first | exact Or.inl (⟨by omega, by omega, by omega⟩) | exact Or.inr ((⟨by omega, by omega, by omega, by omega, by omega⟩))⟩
                  · have _q : True := trivial
                    refine jx_if_eq (pc' := 103) (tg := 119) rfl rfl rfl (by decide) (by decide) (fun h404 => ?_) (fun h404 => ?_)
                    · have _q := h404
                      refine jx_ld (pc' := 120) (l' := L65) (st' := [.ref 66]) rfl (jl_aloadn gL65_0) ?_
                      refine jx_ar (pc' := 121) (st' := [.int (i32 (4)), .ref 66]) rfl rfl rfl rfl ?_
                      refine jx_ld (pc' := 123) (l' := L65) (st' := [.int (i32 (G 12)), .int (i32 (4)), .ref 66]) rfl (jl_iload gL65_4) ?_
                      refine jx_vr (pc' := 126) (as := [.int (i32 (4)), .int (i32 (G 12))]) (st := []) rfl rfl rfl rfl ⟨rfl, rfl, Nat.le_of_ble_eq_true rfl⟩ rfl rfl (c_fail (dd := d) (hd := by omega) (hW := hW45) (kind := 4) (place := G 12) (fk := fk2_44) (e_fk := show G41 16 = fk2_44 from (e48))  (h_kind := ⟨(by decide), (by decide)⟩) (h_place := ⟨(Int.le_trans (by decide : (-2147483648 : Int) ≤ -3000) b39.1), (Int.le_trans b39.2 (by decide : (3002 : Int) ≤ 2147483647))⟩)  (p_0 := by omega) (p_1 := by omega)) (fun o V' hq => ?_)
                      obtain ⟨G405, A406, fk2_407, rfl, rfl, hW408, hF409, e410, p411, -⟩ := hq
                      have hF413 := Fr_tr hF50 hF409 (Fr_sub (by decide)) (Fr_sub (by decide))
                      have hP414 := Pf_f hP51 hF409 (by decide)
                      have bfk2_407 : (0 : Int) ≤ fk2_407 ∧ fk2_407 ≤ 6 := e410 ▸ hW408.1 16
                      refine .inl ⟨rfl, ?_⟩
                      refine jx_ar (pc' := 127) (st' := [.int (i32 (0))]) rfl rfl rfl rfl ?_
                      refine jx_rt (v := some (.int (i32 (0)))) rfl rfl rfl rfl rfl rfl ?_
                      have z415 := tz_f (tk0)
                      exact ⟨_, _, _, at0, fk2_407, op0, nd, tk0, rfl, rfl, hW408, hF413, hP414, by omega, ((hF409.1 10 rfl).trans ((hF46.1 10 rfl).trans (e_at0))), (e410), ((hF409.1 15 rfl).trans ((hF46.1 15 rfl).trans (e_op0))), ((hF409.1 31 rfl).trans ((hF46.1 31 rfl).trans (e_nd))), ((hF409.1 11 rfl).trans ((hF46.1 11 rfl).trans (e_tk0))), by omega, by omega, by omega, by omega, by omega, by omega, by first | exact Or.inl (⟨by omega, by omega, by omega⟩) | exact Or.inr ((⟨by omega, by omega, by omega, by omega, by omega⟩))⟩
                    · have _q := h404
                      exact absurd h404 (by omega)
              · have _q := h71
                exact absurd h71 (by omega)
        · have _q := h38
          refine jx_ld (pc' := 52) (l' := L3) (st' := [.ref 66]) rfl (jl_aloadn gL3_0) ?_
          refine jx_ar (pc' := 53) (st' := [.int (i32 (4)), .ref 66]) rfl rfl rfl rfl ?_
          refine jx_ld (pc' := 54) (l' := L3) (st' := [.ref 66, .int (i32 (4)), .ref 66]) rfl (jl_aloadn gL3_0) ?_
          have b416 : (-3000 : Int) ≤ G 12 ∧ G 12 ≤ 3002 := hW.1 12
          refine jr_get (pc' := 57) (i := 12) (v := .int (i32 (G 12))) rfl rfl (by decide) rfl rfl ?_
          refine jx_vr (pc' := 60) (as := [.int (i32 (4)), .int (i32 (G 12))]) (st := []) rfl rfl rfl rfl ⟨rfl, rfl, Nat.le_of_ble_eq_true rfl⟩ rfl rfl (c_fail (dd := d) (hd := by omega) (hW := hW) (kind := 4) (place := G 12) (fk := fk) (e_fk := show G 16 = fk from (e_fk))  (h_kind := ⟨(by decide), (by decide)⟩) (h_place := ⟨(Int.le_trans (by decide : (-2147483648 : Int) ≤ -3000) b416.1), (Int.le_trans b416.2 (by decide : (3002 : Int) ≤ 2147483647))⟩)  (p_0 := by omega) (p_1 := by omega)) (fun o V' hq => ?_)
          obtain ⟨G417, A418, fk2_419, rfl, rfl, hW420, hF421, e422, p423, -⟩ := hq
          have hF425 := Fr_tr hF0 hF421 (Fr_sub (by decide)) (Fr_sub (by decide))
          have hP426 := Pf_f hP0 hF421 (by decide)
          have bfk2_419 : (0 : Int) ≤ fk2_419 ∧ fk2_419 ≤ 6 := e422 ▸ hW420.1 16
          refine .inl ⟨rfl, ?_⟩
          refine jx_go (tg := 172) rfl rfl ?_
          refine jx_ld (pc' := 173) (l' := L3) (st' := [.ref 66]) rfl (jl_aloadn gL3_0) ?_
          refine jx_ar (pc' := 175) (st' := [.int (i32 (7)), .ref 66]) rfl rfl rfl rfl ?_
          refine jx_ld (pc' := 176) (l' := L3) (st' := [.int (i32 (0)), .int (i32 (7)), .ref 66]) rfl (jl_iloadn gL3_3) ?_
          refine jx_ld (pc' := 177) (l' := L3) (st' := [.int (i32 (pa)), .int (i32 (0)), .int (i32 (7)), .ref 66]) rfl (jl_iloadn gL3_1) ?_
          refine jx_ar (pc' := 178) (st' := [.int (i32 (0)), .int (i32 (pa)), .int (i32 (0)), .int (i32 (7)), .ref 66]) rfl rfl rfl rfl ?_
          refine jx_ar (pc' := 179) (st' := [.int (i32 (0)), .int (i32 (0)), .int (i32 (pa)), .int (i32 (0)), .int (i32 (7)), .ref 66]) rfl rfl rfl rfl ?_
          refine jx_vr (pc' := 182) (as := [.int (i32 (7)), .int (i32 (0)), .int (i32 (pa)), .int (i32 (0)), .int (i32 (0))]) (st := []) rfl rfl rfl rfl ⟨rfl, rfl, Nat.le_of_ble_eq_true rfl⟩ rfl rfl (c_node (dd := d) (hd := by omega) (hW := hW420) (kind := 7) (a := 0) (b := pa) (c := 0) (e := 0) (nd := nd) (e_nd := show G417 31 = nd from ((hF421.1 31 rfl).trans (e_nd)))  (h_kind := ⟨(by decide), (by decide)⟩) (h_a := ⟨(by decide), (by decide)⟩) (h_b := ⟨(Int.le_trans (by decide : (-2147483648 : Int) ≤ -2147483648) h_pa.1), (Int.le_trans h_pa.2 (by decide : (2147483647 : Int) ≤ 2147483647))⟩) (h_c := ⟨(by decide), (by decide)⟩) (h_e := ⟨(by decide), (by decide)⟩)  (p_0 := by omega) (p_1 := by omega)) (fun o V' hq => ?_)
          obtain ⟨G427, A428, nd2_429, rfl, rfl, hW430, hF431, hQ432, e433, p434, -⟩ := hq
          have hF436 := Fr_tr hF425 hF431 (Fr_sub (by decide)) (Fr_sub (by decide))
          have hP437 := Pf_tr hP426 hQ432 (by omega)
          have bnd2_429 : (0 : Int) ≤ nd2_429 ∧ nd2_429 ≤ 6999 := e433 ▸ hW430.1 31
          refine .inr ⟨_, rfl, ?_⟩
          refine jx_rt (v := some (.int (i32 (nd)))) rfl rfl rfl rfl rfl rfl ?_
          have z438 := tz_f (tk0)
          exact ⟨_, _, _, at0, fk2_419, op0, nd2_429, tk0, rfl, rfl, hW430, hF436, hP437, by omega, ((hF431.1 10 rfl).trans ((hF421.1 10 rfl).trans (e_at0))), ((hF431.1 16 rfl).trans (e422)), ((hF431.1 15 rfl).trans ((hF421.1 15 rfl).trans (e_op0))), (e433), ((hF431.1 11 rfl).trans ((hF421.1 11 rfl).trans (e_tk0))), by omega, by omega, by omega, by omega, by omega, by omega, by first | exact Or.inl (⟨by omega, by omega, by omega⟩) | exact Or.inr ((⟨by omega, by omega, by omega, by omega, by omega⟩))⟩
      · have _q := h36
        refine jx_ld (pc' := 36) (l' := L3) (st' := [.ref 66]) rfl (jl_aloadn gL3_0) ?_
        refine jx_vr (pc' := 39) (as := []) (st := []) rfl rfl rfl rfl ⟨rfl, rfl, Nat.le_of_ble_eq_true rfl⟩ rfl rfl (RE_all X 9 (dd := d) (hd := by omega) (hW := hW)  (ln := ln) (e_ln := show G 9 = ln from (e_ln)) (le := le) (e_le := show A 4 (ln).toNat = le from (e_le)) (at0 := at0) (e_at0 := show G 10 = at0 from (e_at0)) (fk := fk) (e_fk := show G 16 = fk from (e_fk)) (op0 := op0) (e_op0 := show G 15 = op0 from (e_op0)) (nd := nd) (e_nd := show G 31 = nd from (e_nd)) (tk0 := tk0) (e_tk0 := show G 11 = tk0 from (e_tk0))    (p_0 := by omega) (p_1 := by omega) (p_2 := by omega) (p_3 := by omega) (p_4 := by omega) (p_5 := by omega)) (fun o V' hq => ?_)
        obtain ⟨G439, A440, r441, at2_442, fk2_443, op2_444, nd2_445, tk2_446, rfl, rfl, hW447, hF448, hQ449, b450, e451, e452, e453, e454, e455, p456, p457, p458, p459, p460, p461, q462⟩ := hq
        have hF463 := Fr_tr hF0 hF448 (Fr_sub (by decide)) (Fr_sub (by decide))
        have hP464 := Pf_tr hP0 hQ449 (by omega)
        have bat2_442 : (0 : Int) ≤ at2_442 ∧ at2_442 ≤ 3002 := e451 ▸ hW447.1 10
        have bfk2_443 : (0 : Int) ≤ fk2_443 ∧ fk2_443 ≤ 6 := e452 ▸ hW447.1 16
        have bop2_444 : (-2147483648 : Int) ≤ op2_444 ∧ op2_444 ≤ 2147483647 := e453 ▸ hW447.1 15
        have bnd2_445 : (0 : Int) ≤ nd2_445 ∧ nd2_445 ≤ 6999 := e454 ▸ hW447.1 31
        have ztk2_446 := tz_b tk2_446
        have btk2_446 : (0 : Int) ≤ tk2_446 ∧ tk2_446 ≤ 5 := e455 ▸ hW447.1 11
        refine .inr ⟨_, rfl, ?_⟩
        rcases q462 with ⟨a465, a466, a467, a468, a469, a470⟩ | ⟨a471, a472, a473⟩ | ⟨a474, a475, a476⟩
        · have _q : True := trivial
          exfalso
          omega
        · have _q : True := trivial
          refine jx_ld (pc' := 40) (l' := jSto1 L3 3 (.int (i32 (r441)))) (st' := []) rfl rfl ?_
          obtain ⟨L477, eL477⟩ : ∃ q, q = jSto1 L3 3 (.int (i32 (r441))) := ⟨_, rfl⟩
          rw [← eL477]
          have gL477_0 : jGet L477 0 = some (.ref 66) := eL477 ▸ jg_ne (by decide) gL3_0 rfl
          have gL477_1 : jGet L477 1 = some (.int (i32 (pa))) := eL477 ▸ jg_ne (by decide) gL3_1 rfl
          have gL477_2 : jGet L477 2 = some (.int (i32 (A 7 (pa).toNat))) := eL477 ▸ jg_ne (by decide) gL3_2 rfl
          have gL477_3 : jGet L477 3 = some (.int (i32 (r441))) := eL477 ▸ jg_eq
          refine jx_go (tg := 172) rfl rfl ?_
          refine jx_ld (pc' := 173) (l' := L477) (st' := [.ref 66]) rfl (jl_aloadn gL477_0) ?_
          refine jx_ar (pc' := 175) (st' := [.int (i32 (7)), .ref 66]) rfl rfl rfl rfl ?_
          refine jx_ld (pc' := 176) (l' := L477) (st' := [.int (i32 (r441)), .int (i32 (7)), .ref 66]) rfl (jl_iloadn gL477_3) ?_
          refine jx_ld (pc' := 177) (l' := L477) (st' := [.int (i32 (pa)), .int (i32 (r441)), .int (i32 (7)), .ref 66]) rfl (jl_iloadn gL477_1) ?_
          refine jx_ar (pc' := 178) (st' := [.int (i32 (0)), .int (i32 (pa)), .int (i32 (r441)), .int (i32 (7)), .ref 66]) rfl rfl rfl rfl ?_
          refine jx_ar (pc' := 179) (st' := [.int (i32 (0)), .int (i32 (0)), .int (i32 (pa)), .int (i32 (r441)), .int (i32 (7)), .ref 66]) rfl rfl rfl rfl ?_
          refine jx_vr (pc' := 182) (as := [.int (i32 (7)), .int (i32 (r441)), .int (i32 (pa)), .int (i32 (0)), .int (i32 (0))]) (st := []) rfl rfl rfl rfl ⟨rfl, rfl, Nat.le_of_ble_eq_true rfl⟩ rfl rfl (c_node (dd := d) (hd := by omega) (hW := hW447) (kind := 7) (a := r441) (b := pa) (c := 0) (e := 0) (nd := nd2_445) (e_nd := show G439 31 = nd2_445 from (e454))  (h_kind := ⟨(by decide), (by decide)⟩) (h_a := ⟨(Int.le_trans (by decide : (-2147483648 : Int) ≤ -2147483648) b450.1), (Int.le_trans b450.2 (by decide : (2147483647 : Int) ≤ 2147483647))⟩) (h_b := ⟨(Int.le_trans (by decide : (-2147483648 : Int) ≤ -2147483648) h_pa.1), (Int.le_trans h_pa.2 (by decide : (2147483647 : Int) ≤ 2147483647))⟩) (h_c := ⟨(by decide), (by decide)⟩) (h_e := ⟨(by decide), (by decide)⟩)  (p_0 := by omega) (p_1 := by omega)) (fun o V' hq => ?_)
          obtain ⟨G478, A479, nd2_480, rfl, rfl, hW481, hF482, hQ483, e484, p485, -⟩ := hq
          have hF487 := Fr_tr hF463 hF482 (Fr_sub (by decide)) (Fr_sub (by decide))
          have hP488 := Pf_tr hP464 hQ483 (by omega)
          have bnd2_480 : (0 : Int) ≤ nd2_480 ∧ nd2_480 ≤ 6999 := e484 ▸ hW481.1 31
          refine .inr ⟨_, rfl, ?_⟩
          refine jx_rt (v := some (.int (i32 (nd2_445)))) rfl rfl rfl rfl rfl rfl ?_
          have z489 := tz_f (tk2_446)
          exact ⟨_, _, _, at2_442, fk2_443, op2_444, nd2_480, tk2_446, rfl, rfl, hW481, hF487, hP488, by omega, ((hF482.1 10 rfl).trans (e451)), ((hF482.1 16 rfl).trans (e452)), ((hF482.1 15 rfl).trans (e453)), (e484), ((hF482.1 11 rfl).trans (e455)), by omega, by omega, by omega, by omega, by omega, by omega, by first | exact Or.inl (⟨by omega, by omega, by omega⟩) | exact Or.inr ((⟨by omega, by omega, by omega, by omega, by omega⟩))⟩
        · have _q : True := trivial
          refine jx_ld (pc' := 40) (l' := jSto1 L3 3 (.int (i32 (r441)))) (st' := []) rfl rfl ?_
          obtain ⟨L490, eL490⟩ : ∃ q, q = jSto1 L3 3 (.int (i32 (r441))) := ⟨_, rfl⟩
          rw [← eL490]
          have gL490_0 : jGet L490 0 = some (.ref 66) := eL490 ▸ jg_ne (by decide) gL3_0 rfl
          have gL490_1 : jGet L490 1 = some (.int (i32 (pa))) := eL490 ▸ jg_ne (by decide) gL3_1 rfl
          have gL490_2 : jGet L490 2 = some (.int (i32 (A 7 (pa).toNat))) := eL490 ▸ jg_ne (by decide) gL3_2 rfl
          have gL490_3 : jGet L490 3 = some (.int (i32 (r441))) := eL490 ▸ jg_eq
          refine jx_go (tg := 172) rfl rfl ?_
          refine jx_ld (pc' := 173) (l' := L490) (st' := [.ref 66]) rfl (jl_aloadn gL490_0) ?_
          refine jx_ar (pc' := 175) (st' := [.int (i32 (7)), .ref 66]) rfl rfl rfl rfl ?_
          refine jx_ld (pc' := 176) (l' := L490) (st' := [.int (i32 (r441)), .int (i32 (7)), .ref 66]) rfl (jl_iloadn gL490_3) ?_
          refine jx_ld (pc' := 177) (l' := L490) (st' := [.int (i32 (pa)), .int (i32 (r441)), .int (i32 (7)), .ref 66]) rfl (jl_iloadn gL490_1) ?_
          refine jx_ar (pc' := 178) (st' := [.int (i32 (0)), .int (i32 (pa)), .int (i32 (r441)), .int (i32 (7)), .ref 66]) rfl rfl rfl rfl ?_
          refine jx_ar (pc' := 179) (st' := [.int (i32 (0)), .int (i32 (0)), .int (i32 (pa)), .int (i32 (r441)), .int (i32 (7)), .ref 66]) rfl rfl rfl rfl ?_
          refine jx_vr (pc' := 182) (as := [.int (i32 (7)), .int (i32 (r441)), .int (i32 (pa)), .int (i32 (0)), .int (i32 (0))]) (st := []) rfl rfl rfl rfl ⟨rfl, rfl, Nat.le_of_ble_eq_true rfl⟩ rfl rfl (c_node (dd := d) (hd := by omega) (hW := hW447) (kind := 7) (a := r441) (b := pa) (c := 0) (e := 0) (nd := nd2_445) (e_nd := show G439 31 = nd2_445 from (e454))  (h_kind := ⟨(by decide), (by decide)⟩) (h_a := ⟨(Int.le_trans (by decide : (-2147483648 : Int) ≤ -2147483648) b450.1), (Int.le_trans b450.2 (by decide : (2147483647 : Int) ≤ 2147483647))⟩) (h_b := ⟨(Int.le_trans (by decide : (-2147483648 : Int) ≤ -2147483648) h_pa.1), (Int.le_trans h_pa.2 (by decide : (2147483647 : Int) ≤ 2147483647))⟩) (h_c := ⟨(by decide), (by decide)⟩) (h_e := ⟨(by decide), (by decide)⟩)  (p_0 := by omega) (p_1 := by omega)) (fun o V' hq => ?_)
          obtain ⟨G491, A492, nd2_493, rfl, rfl, hW494, hF495, hQ496, e497, p498, -⟩ := hq
          have hF500 := Fr_tr hF463 hF495 (Fr_sub (by decide)) (Fr_sub (by decide))
          have hP501 := Pf_tr hP464 hQ496 (by omega)
          have bnd2_493 : (0 : Int) ≤ nd2_493 ∧ nd2_493 ≤ 6999 := e497 ▸ hW494.1 31
          refine .inr ⟨_, rfl, ?_⟩
          refine jx_rt (v := some (.int (i32 (nd2_445)))) rfl rfl rfl rfl rfl rfl ?_
          have z502 := tz_f (tk2_446)
          exact ⟨_, _, _, at2_442, fk2_443, op2_444, nd2_493, tk2_446, rfl, rfl, hW494, hF500, hP501, by omega, ((hF495.1 10 rfl).trans (e451)), ((hF495.1 16 rfl).trans (e452)), ((hF495.1 15 rfl).trans (e453)), (e497), ((hF495.1 11 rfl).trans (e455)), by omega, by omega, by omega, by omega, by omega, by omega, by first | exact Or.inl (⟨by omega, by omega, by omega⟩) | exact Or.inr ((⟨by omega, by omega, by omega, by omega, by omega⟩))⟩
    · have _q := h35
      exact absurd h35 (by omega)
set_option maxRecDepth 20000 in
set_option maxHeartbeats 4000000 in
theorem c_readCall {X : jX} {dd : Nat} {c0 c1 : jC} {G : Nat → Int} {A : Nat → Nat → Int} {T : jH} {s : Int} {ln le at0 fk op0 nd tk0 li : Int} (hd : 71 ≤ dd) (hW : Wk G A) (e_ln : G 9 = ln) (e_le : A 4 (ln).toNat = le) (e_at0 : G 10 = at0) (e_fk : G 16 = fk) (e_op0 : G 15 = op0) (e_nd : G 31 = nd) (e_tk0 : G 11 = tk0) (e_li : G 3 = li) (h_s : (-2147483648 : Int) ≤ s ∧ s ≤ 2147483647) (p_0 : 0 ≤ op0 ∧ op0 ≤ 8) (p_1 : fk = 0) (p_2 : nd ≤ 2 * at0 - tz tk0 + 42) (p_3 : at0 ≤ le) (p_4 : ln < li) (p_5 : 0 ≤ s ∧ s ≤ 201) (p_6 : 1 ≤ tk0) : wk X dd 305 [.ref 66, .int (i32 s)] (rV c0 c1 G A T) (fun o V' => ∃ (G' : Nat → Int) (A' : Nat → Nat → Int) (r : Int) (at2 : Int) (fk2 : Int) (nd2 : Int) (ln2 : Int), V' = rV c0 c1 G' A' T ∧ o = .inl (some (.int (i32 r))) ∧ Wk G' A' ∧ Fr [9, 10, 11, 12, 13, 14, 15, 16, 17, 18, 31] [15, 16, 17, 18, 19, 20, 21, 22, 24, 28] G A G' A' ∧ Pf nd A A' ∧ ((-2147483648 : Int) ≤ r ∧ r ≤ 2147483647) ∧ G' 10 = at2 ∧ G' 16 = fk2 ∧ G' 31 = nd2 ∧ G' 9 = ln2 ∧ (at0 ≤ at2) ∧ (at2 ≤ le) ∧ (nd ≤ nd2) ∧ (0 ≤ r) ∧ (r ≤ nd2) ∧ (((1 ≤ fk2) ∧ (ln2 = ln) ∧ (nd2 - nd ≤ 2 * at2 - 2 * at0 + 8)) ∨ ((fk2 = 0) ∧ (ln2 = ln + 1) ∧ (nd2 - nd ≤ 2 * at2 - (2 * at0 - tz tk0) + 0) ∧ (nd ≤ r) ∧ (r < nd2)))) := by
  obtain ⟨d, rfl⟩ : ∃ d, dd = d + 1 := ⟨dd - 1, by omega⟩
  refine wk_of (e := jm305) rfl (Nat.le_of_ble_eq_true rfl) ?_
  show wj X d jm305 (0, [(0, .ref 66), (1, .int (i32 (s)))], [], rV c0 c1 G A T) _
  have hF0 : Fr [9, 10, 11, 12, 13, 14, 15, 16, 17, 18, 31] [15, 16, 17, 18, 19, 20, 21, 22, 24, 28] G A G A := Fr_rf
  have hP0 : Pf nd A A := Pf_rf
  have b_ln : (0 : Int) ≤ ln ∧ ln ≤ 3000 := e_ln ▸ hW.1 9
  have b_le : (0 : Int) ≤ le ∧ le ≤ 3000 := e_le ▸ hW.2 4 _
  have b_at0 : (0 : Int) ≤ at0 ∧ at0 ≤ 3002 := e_at0 ▸ hW.1 10
  have b_fk : (0 : Int) ≤ fk ∧ fk ≤ 6 := e_fk ▸ hW.1 16
  have b_op0 : (-2147483648 : Int) ≤ op0 ∧ op0 ≤ 2147483647 := e_op0 ▸ hW.1 15
  have b_nd : (0 : Int) ≤ nd ∧ nd ≤ 6999 := e_nd ▸ hW.1 31
  have z_tk0 := tz_f tk0
  have b_tk0 : (0 : Int) ≤ tk0 ∧ tk0 ≤ 5 := e_tk0 ▸ hW.1 11
  have b_li : (0 : Int) ≤ li ∧ li ≤ 3000 := e_li ▸ hW.1 3
  have at_88 : ∀ (m : Nat) (L : jL) (Gx : Nat → Int) (Ax : Nat → Nat → Int) (n many last kk at1 tk1 fk1 nd1 op1 : Int), (many - kk).toNat = m → jGet L 0 = some (.ref 66) → jGet L 1 = some (.int (i32 (s))) → jGet L 2 = some (.int (i32 n)) → jGet L 3 = some (.int (i32 many)) → jGet L 4 = some (.int (i32 last)) → jGet L 5 = some (.int (i32 kk)) → Wk Gx Ax → Fr [9, 10, 11, 12, 13, 14, 15, 16, 17, 18, 31] [15, 16, 17, 18, 19, 20, 21, 22, 24, 28] G A Gx Ax → Pf nd A Ax → Gx 10 = at1 → Gx 11 = tk1 → Gx 16 = fk1 → Gx 31 = nd1 → Gx 15 = op1 → Gx 9 = ln → ((-2147483648 : Int) ≤ n ∧ n ≤ 2147483647) → ((-2147483648 : Int) ≤ many ∧ many ≤ 2147483647) → ((-2147483648 : Int) ≤ last ∧ last ≤ 2147483647) → ((-2147483648 : Int) ≤ kk ∧ kk ≤ 2147483647) → (at0 ≤ at1) → (at1 ≤ le) → (nd ≤ n ∧ n ≤ 6998) → (nd ≤ nd1 ∧ n < nd1) → (0 ≤ many ∧ many ≤ 6) → (last = 0 ∨ nd ≤ last) → (0 ≤ last ∧ last ≤ 6998) → (0 ≤ kk ∧ kk ≤ many) → (0 ≤ op1 ∧ op1 ≤ 9) → (1 ≤ fk1 ∨ op1 ≤ 8) → (nd1 - nd ≤ (2 * at1 - tz tk1) - (2 * at0 - tz tk0) + 4) → (1 ≤ fk1 ∨ nd1 - nd ≤ (2 * at1 - tz tk1) - (2 * at0 - tz tk0) + 1) → (1 ≤ fk1 ∨ kk = many ∨ nd1 - nd ≤ (2 * at1 - tz tk1) - (2 * at0 - tz tk0)) → wj X d jm305 (88, L, [], rV c0 c1 Gx Ax T) (fun o V' => ∃ (G' : Nat → Int) (A' : Nat → Nat → Int) (r : Int) (at2 : Int) (fk2 : Int) (nd2 : Int) (ln2 : Int), V' = rV c0 c1 G' A' T ∧ o = .inl (some (.int (i32 r))) ∧ Wk G' A' ∧ Fr [9, 10, 11, 12, 13, 14, 15, 16, 17, 18, 31] [15, 16, 17, 18, 19, 20, 21, 22, 24, 28] G A G' A' ∧ Pf nd A A' ∧ ((-2147483648 : Int) ≤ r ∧ r ≤ 2147483647) ∧ G' 10 = at2 ∧ G' 16 = fk2 ∧ G' 31 = nd2 ∧ G' 9 = ln2 ∧ (at0 ≤ at2) ∧ (at2 ≤ le) ∧ (nd ≤ nd2) ∧ (0 ≤ r) ∧ (r ≤ nd2) ∧ (((1 ≤ fk2) ∧ (ln2 = ln) ∧ (nd2 - nd ≤ 2 * at2 - 2 * at0 + 8)) ∨ ((fk2 = 0) ∧ (ln2 = ln + 1) ∧ (nd2 - nd ≤ 2 * at2 - (2 * at0 - tz tk0) + 0) ∧ (nd ≤ r) ∧ (r < nd2)))) := by
    intro m
    induction m using Nat.strongRecOn with
    | ind m ih88 =>
      intro L Gx Ax n many last kk at1 tk1 fk1 nd1 op1 hm gL_0 gL_1 gL_2 gL_3 gL_4 gL_5 hWx hFx hPx ex_at1 ex_tk1 ex_fk1 ex_nd1 ex_op1 fx_9 rx_n rx_many rx_last rx_kk iv_0 iv_1 iv_2 iv_3 iv_4 iv_5 iv_6 iv_7 iv_8 iv_9 iv_10 iv_11 iv_12
      have b_at1 : (0 : Int) ≤ at1 ∧ at1 ≤ 3002 := ex_at1 ▸ hWx.1 10
      have z_tk1 := tz_f tk1
      have b_tk1 : (0 : Int) ≤ tk1 ∧ tk1 ≤ 5 := ex_tk1 ▸ hWx.1 11
      have b_fk1 : (0 : Int) ≤ fk1 ∧ fk1 ≤ 6 := ex_fk1 ▸ hWx.1 16
      have b_nd1 : (0 : Int) ≤ nd1 ∧ nd1 ≤ 6999 := ex_nd1 ▸ hWx.1 31
      have b_op1 : (-2147483648 : Int) ≤ op1 ∧ op1 ≤ 2147483647 := ex_op1 ▸ hWx.1 15
      refine jx_ld (pc' := 89) (l' := L) (st' := [.ref 66]) rfl (jl_aloadn gL_0) ?_
      refine jx_vr (pc' := 92) (as := []) (st := []) rfl rfl rfl rfl ⟨rfl, rfl, Nat.le_of_ble_eq_true rfl⟩ rfl rfl (c_bad (dd := d) (hd := by omega) (hW := hWx)  (fk := fk1) (e_fk := show Gx 16 = fk1 from (ex_fk1))    ) (fun o V' hq => ?_)
      obtain ⟨r1, rfl, rfl, b2, q3⟩ := hq
      refine .inr ⟨_, rfl, ?_⟩
      rcases q3 with ⟨rfl, a4⟩ | ⟨rfl, a5⟩
      · have _q : True := trivial
        refine jx_if_ne (pc' := 95) (tg := 233) rfl rfl rfl (by decide) (by decide) (fun h6 => ?_) (fun h6 => ?_)
        · have _q := h6
          refine jx_ld (pc' := 234) (l' := L) (st' := [.ref 66]) rfl (jl_aloadn gL_0) ?_
          refine jx_ld (pc' := 235) (l' := L) (st' := [.ref 66, .ref 66]) rfl (jl_aloadn gL_0) ?_
          refine jx_ar (pc' := 237) (st' := [.int (i32 (41)), .ref 66, .ref 66]) rfl rfl rfl rfl ?_
          have b7 : (-2147483648 : Int) ≤ Gx 13 ∧ Gx 13 ≤ 2147483647 := hWx.1 13
          refine jx_vr (pc' := 240) (as := [.int (i32 (41))]) (st := [.ref 66]) rfl rfl rfl rfl ⟨rfl, rfl, Nat.le_of_ble_eq_true rfl⟩ rfl rfl (c_is (dd := d) (hd := by omega) (hW := hWx) (k := 41) (tk := tk1) (e_tk := show Gx 11 = tk1 from (ex_tk1)) (tn := Gx 13) (e_tn := show Gx 13 = Gx 13 from rfl)  (h_k := ⟨(by decide), (by decide)⟩)  ) (fun o V' hq => ?_)
          obtain ⟨r8, rfl, rfl, b9, q10⟩ := hq
          refine .inr ⟨_, rfl, ?_⟩
          rcases q10 with ⟨rfl, a11, a12, a13⟩ | rfl
          · have _q : True := trivial
            refine jx_vr (pc' := 243) (as := [.int (i32 (1))]) (st := []) rfl rfl rfl rfl ⟨rfl, rfl, Nat.le_of_ble_eq_true rfl⟩ rfl rfl (c_need (dd := d) (hd := by omega) (hW := hWx) (g := 1) (ln := ln) (e_ln := show Gx 9 = ln from (fx_9)) (le := le) (e_le := show Ax 4 (ln).toNat = le from (congrFun (hFx.2 4 rfl) _).trans (e_le)) (at0 := at1) (e_at0 := show Gx 10 = at1 from (ex_at1)) (fk := fk1) (e_fk := show Gx 16 = fk1 from (ex_fk1)) (tk0 := tk1) (e_tk0 := show Gx 11 = tk1 from (ex_tk1))  (h_g := ⟨(by decide), (by decide)⟩)  (p_0 := by omega)) (fun o V' hq => ?_)
            obtain ⟨G14, A15, at2_16, tk2_17, fk2_18, rfl, rfl, hW19, hF20, e21, e22, e23, p24, p25, q26⟩ := hq
            have hF27 := Fr_tr hFx hF20 (Fr_sub (by decide)) (Fr_sub (by decide))
            have hP28 := Pf_f hPx hF20 (by decide)
            have bat2_16 : (0 : Int) ≤ at2_16 ∧ at2_16 ≤ 3002 := e21 ▸ hW19.1 10
            have ztk2_17 := tz_b tk2_17
            have btk2_17 : (0 : Int) ≤ tk2_17 ∧ tk2_17 ≤ 5 := e22 ▸ hW19.1 11
            have bfk2_18 : (0 : Int) ≤ fk2_18 ∧ fk2_18 ≤ 6 := e23 ▸ hW19.1 16
            refine .inl ⟨rfl, ?_⟩
            rcases q26 with ⟨a29, a30, a31, a32⟩ | ⟨a33, a34, a35, a36⟩
            · have _q : True := trivial
              refine jx_ld (pc' := 244) (l' := L) (st' := [.ref 66]) rfl (jl_aloadn gL_0) ?_
              refine jx_ar (pc' := 245) (st' := [.ref 66, .ref 66]) rfl rfl rfl rfl ?_
              refine jr_get (pc' := 248) (i := 15) (v := .int (i32 (op1))) rfl rfl (by decide) (rFv_eq (by decide) (show G14 15 = op1 from ((hF20.1 15 rfl).trans (ex_op1)))) rfl ?_
              refine jx_ar (pc' := 249) (st' := [.int (i32 (1)), .int (i32 (op1)), .ref 66]) rfl rfl rfl rfl ?_
              refine jx_sub (pc' := 250) rfl rfl ?_
              refine jr_put (pc' := 253) (i := 15) (z := (op1 - 1)) rfl rfl (by decide) rfl rfl rfl rfl rfl rfl ?_
              have hW37 : Wk (uG G14 15 ((op1 - 1))) A15 := Wk_g hW19 (show (-2147483648 : Int) ≤ (op1 - 1) by omega) (show (op1 - 1) ≤ (2147483647 : Int) by omega)
              have hF38 := Fr_g (z := (op1 - 1)) (i := 15) hF27 (by decide)
              refine jx_ld (pc' := 254) (l' := L) (st' := [.ref 66]) rfl (jl_aloadn gL_0) ?_
              refine jx_vr (pc' := 257) (as := []) (st := []) rfl rfl rfl rfl ⟨rfl, rfl, Nat.le_of_ble_eq_true rfl⟩ rfl rfl (c_endLine (dd := d) (hd := by omega) (hW := hW37)  (ln := ln) (e_ln := show (uG G14 15 ((op1 - 1))) 9 = ln from ((hF20.1 9 rfl).trans (fx_9))) (li := li) (e_li := show (uG G14 15 ((op1 - 1))) 3 = li from ((hF20.1 3 rfl).trans ((hFx.1 3 rfl).trans (e_li)))) (fk := fk2_18) (e_fk := show (uG G14 15 ((op1 - 1))) 16 = fk2_18 from (e23)) (tk0 := tk2_17) (e_tk0 := show (uG G14 15 ((op1 - 1))) 11 = tk2_17 from (e22))    (p_0 := by omega)) (fun o V' hq => ?_)
              obtain ⟨G39, A40, ln2_41, fk2_42, rfl, rfl, hW43, hF44, e45, e46, q47⟩ := hq
              have hF48 := Fr_tr hF38 hF44 (Fr_sub (by decide)) (Fr_sub (by decide))
              have hP49 := Pf_f hP28 hF44 (by decide)
              have bln2_41 : (0 : Int) ≤ ln2_41 ∧ ln2_41 ≤ 3000 := e45 ▸ hW43.1 9
              have bfk2_42 : (0 : Int) ≤ fk2_42 ∧ fk2_42 ≤ 6 := e46 ▸ hW43.1 16
              refine .inl ⟨rfl, ?_⟩
              rcases q47 with ⟨a50, a51, a52, a53, a54⟩ | ⟨a55, a56⟩
              · have _q : True := trivial
                exfalso
                omega
              · have _q : True := trivial
                refine jx_ld (pc' := 258) (l' := L) (st' := [.int (i32 (n))]) rfl (jl_iloadn gL_2) ?_
                refine jx_rt (v := some (.int (i32 (n)))) rfl rfl rfl rfl rfl rfl ?_
                exact ⟨_, _, _, at2_16, fk2_42, nd1, ln2_41, rfl, rfl, hW43, hF48, hP49, by omega, ((hF44.1 10 rfl).trans (e21)), (e46), ((hF44.1 31 rfl).trans ((hF20.1 31 rfl).trans (ex_nd1))), (e45), by omega, by omega, by omega, by omega, by omega, by first | exact Or.inl (⟨by omega, by omega, by omega⟩) | exact Or.inr ((⟨by omega, by omega, by omega, by omega, by omega⟩))⟩
            · have _q : True := trivial
              exfalso
              omega
          · have _q : True := trivial
            refine jx_vr (pc' := 243) (as := [.int (i32 (0))]) (st := []) rfl rfl rfl rfl ⟨rfl, rfl, Nat.le_of_ble_eq_true rfl⟩ rfl rfl (c_need (dd := d) (hd := by omega) (hW := hWx) (g := 0) (ln := ln) (e_ln := show Gx 9 = ln from (fx_9)) (le := le) (e_le := show Ax 4 (ln).toNat = le from (congrFun (hFx.2 4 rfl) _).trans (e_le)) (at0 := at1) (e_at0 := show Gx 10 = at1 from (ex_at1)) (fk := fk1) (e_fk := show Gx 16 = fk1 from (ex_fk1)) (tk0 := tk1) (e_tk0 := show Gx 11 = tk1 from (ex_tk1))  (h_g := ⟨(by decide), (by decide)⟩)  (p_0 := by omega)) (fun o V' hq => ?_)
            obtain ⟨G57, A58, at2_59, tk2_60, fk2_61, rfl, rfl, hW62, hF63, e64, e65, e66, p67, p68, q69⟩ := hq
            have hF70 := Fr_tr hFx hF63 (Fr_sub (by decide)) (Fr_sub (by decide))
            have hP71 := Pf_f hPx hF63 (by decide)
            have bat2_59 : (0 : Int) ≤ at2_59 ∧ at2_59 ≤ 3002 := e64 ▸ hW62.1 10
            have ztk2_60 := tz_b tk2_60
            have btk2_60 : (0 : Int) ≤ tk2_60 ∧ tk2_60 ≤ 5 := e65 ▸ hW62.1 11
            have bfk2_61 : (0 : Int) ≤ fk2_61 ∧ fk2_61 ≤ 6 := e66 ▸ hW62.1 16
            refine .inl ⟨rfl, ?_⟩
            rcases q69 with ⟨a72, a73, a74, a75⟩ | ⟨a76, a77, a78, a79⟩
            · have _q : True := trivial
              refine jx_ld (pc' := 244) (l' := L) (st' := [.ref 66]) rfl (jl_aloadn gL_0) ?_
              refine jx_ar (pc' := 245) (st' := [.ref 66, .ref 66]) rfl rfl rfl rfl ?_
              refine jr_get (pc' := 248) (i := 15) (v := .int (i32 (op1))) rfl rfl (by decide) (rFv_eq (by decide) (show G57 15 = op1 from ((hF63.1 15 rfl).trans (ex_op1)))) rfl ?_
              refine jx_ar (pc' := 249) (st' := [.int (i32 (1)), .int (i32 (op1)), .ref 66]) rfl rfl rfl rfl ?_
              refine jx_sub (pc' := 250) rfl rfl ?_
              refine jr_put (pc' := 253) (i := 15) (z := (op1 - 1)) rfl rfl (by decide) rfl rfl rfl rfl rfl rfl ?_
              have hW80 : Wk (uG G57 15 ((op1 - 1))) A58 := Wk_g hW62 (show (-2147483648 : Int) ≤ (op1 - 1) by omega) (show (op1 - 1) ≤ (2147483647 : Int) by omega)
              have hF81 := Fr_g (z := (op1 - 1)) (i := 15) hF70 (by decide)
              refine jx_ld (pc' := 254) (l' := L) (st' := [.ref 66]) rfl (jl_aloadn gL_0) ?_
              refine jx_vr (pc' := 257) (as := []) (st := []) rfl rfl rfl rfl ⟨rfl, rfl, Nat.le_of_ble_eq_true rfl⟩ rfl rfl (c_endLine (dd := d) (hd := by omega) (hW := hW80)  (ln := ln) (e_ln := show (uG G57 15 ((op1 - 1))) 9 = ln from ((hF63.1 9 rfl).trans (fx_9))) (li := li) (e_li := show (uG G57 15 ((op1 - 1))) 3 = li from ((hF63.1 3 rfl).trans ((hFx.1 3 rfl).trans (e_li)))) (fk := fk2_61) (e_fk := show (uG G57 15 ((op1 - 1))) 16 = fk2_61 from (e66)) (tk0 := tk2_60) (e_tk0 := show (uG G57 15 ((op1 - 1))) 11 = tk2_60 from (e65))    (p_0 := by omega)) (fun o V' hq => ?_)
              obtain ⟨G82, A83, ln2_84, fk2_85, rfl, rfl, hW86, hF87, e88, e89, q90⟩ := hq
              have hF91 := Fr_tr hF81 hF87 (Fr_sub (by decide)) (Fr_sub (by decide))
              have hP92 := Pf_f hP71 hF87 (by decide)
              have bln2_84 : (0 : Int) ≤ ln2_84 ∧ ln2_84 ≤ 3000 := e88 ▸ hW86.1 9
              have bfk2_85 : (0 : Int) ≤ fk2_85 ∧ fk2_85 ≤ 6 := e89 ▸ hW86.1 16
              refine .inl ⟨rfl, ?_⟩
              rcases q90 with ⟨a93, a94, a95, a96, a97⟩ | ⟨a98, a99⟩
              · have _q : True := trivial
                exfalso
                omega
              · have _q : True := trivial
                refine jx_ld (pc' := 258) (l' := L) (st' := [.int (i32 (n))]) rfl (jl_iloadn gL_2) ?_
                refine jx_rt (v := some (.int (i32 (n)))) rfl rfl rfl rfl rfl rfl ?_
                exact ⟨_, _, _, at2_59, fk2_85, nd1, ln2_84, rfl, rfl, hW86, hF91, hP92, by omega, ((hF87.1 10 rfl).trans (e64)), (e89), ((hF87.1 31 rfl).trans ((hF63.1 31 rfl).trans (ex_nd1))), (e88), by omega, by omega, by omega, by omega, by omega, by first | exact Or.inl (⟨by omega, by omega, by omega⟩) | exact Or.inr ((⟨by omega, by omega, by omega, by omega, by omega⟩))⟩
            · have _q : True := trivial
              exfalso
              omega
        · have _q := h6
          exact absurd h6 (by omega)
      · have _q : True := trivial
        refine jx_if_ne (pc' := 95) (tg := 233) rfl rfl rfl (by decide) (by decide) (fun h100 => ?_) (fun h100 => ?_)
        · have _q := h100
          exact absurd h100 (by omega)
        · have _q := h100
          refine jx_ld (pc' := 97) (l' := L) (st' := [.int (i32 (kk))]) rfl (jl_iload gL_5) ?_
          refine jx_ld (pc' := 98) (l' := L) (st' := [.int (i32 (many)), .int (i32 (kk))]) rfl (jl_iloadn gL_3) ?_
          refine jx_icmp_ge (pc' := 101) (tg := 233) rfl rfl rfl (Int.le_trans (by decide : (-2147483648 : Int) ≤ -2147483648) rx_kk.1) (Int.le_trans rx_kk.2 (by decide : (2147483647 : Int) ≤ 2147483647)) (Int.le_trans (by decide : (-2147483648 : Int) ≤ -2147483648) rx_many.1) (Int.le_trans rx_many.2 (by decide : (2147483647 : Int) ≤ 2147483647)) (fun h101 => ?_) (fun h101 => ?_)
          · have _q := h101
            refine jx_ld (pc' := 234) (l' := L) (st' := [.ref 66]) rfl (jl_aloadn gL_0) ?_
            refine jx_ld (pc' := 235) (l' := L) (st' := [.ref 66, .ref 66]) rfl (jl_aloadn gL_0) ?_
            refine jx_ar (pc' := 237) (st' := [.int (i32 (41)), .ref 66, .ref 66]) rfl rfl rfl rfl ?_
            have b102 : (-2147483648 : Int) ≤ Gx 13 ∧ Gx 13 ≤ 2147483647 := hWx.1 13
            refine jx_vr (pc' := 240) (as := [.int (i32 (41))]) (st := [.ref 66]) rfl rfl rfl rfl ⟨rfl, rfl, Nat.le_of_ble_eq_true rfl⟩ rfl rfl (c_is (dd := d) (hd := by omega) (hW := hWx) (k := 41) (tk := tk1) (e_tk := show Gx 11 = tk1 from (ex_tk1)) (tn := Gx 13) (e_tn := show Gx 13 = Gx 13 from rfl)  (h_k := ⟨(by decide), (by decide)⟩)  ) (fun o V' hq => ?_)
            obtain ⟨r103, rfl, rfl, b104, q105⟩ := hq
            refine .inr ⟨_, rfl, ?_⟩
            rcases q105 with ⟨rfl, a106, a107, a108⟩ | rfl
            · have _q : True := trivial
              refine jx_vr (pc' := 243) (as := [.int (i32 (1))]) (st := []) rfl rfl rfl rfl ⟨rfl, rfl, Nat.le_of_ble_eq_true rfl⟩ rfl rfl (c_need (dd := d) (hd := by omega) (hW := hWx) (g := 1) (ln := ln) (e_ln := show Gx 9 = ln from (fx_9)) (le := le) (e_le := show Ax 4 (ln).toNat = le from (congrFun (hFx.2 4 rfl) _).trans (e_le)) (at0 := at1) (e_at0 := show Gx 10 = at1 from (ex_at1)) (fk := fk1) (e_fk := show Gx 16 = fk1 from (ex_fk1)) (tk0 := tk1) (e_tk0 := show Gx 11 = tk1 from (ex_tk1))  (h_g := ⟨(by decide), (by decide)⟩)  (p_0 := by omega)) (fun o V' hq => ?_)
              obtain ⟨G109, A110, at2_111, tk2_112, fk2_113, rfl, rfl, hW114, hF115, e116, e117, e118, p119, p120, q121⟩ := hq
              have hF122 := Fr_tr hFx hF115 (Fr_sub (by decide)) (Fr_sub (by decide))
              have hP123 := Pf_f hPx hF115 (by decide)
              have bat2_111 : (0 : Int) ≤ at2_111 ∧ at2_111 ≤ 3002 := e116 ▸ hW114.1 10
              have ztk2_112 := tz_b tk2_112
              have btk2_112 : (0 : Int) ≤ tk2_112 ∧ tk2_112 ≤ 5 := e117 ▸ hW114.1 11
              have bfk2_113 : (0 : Int) ≤ fk2_113 ∧ fk2_113 ≤ 6 := e118 ▸ hW114.1 16
              refine .inl ⟨rfl, ?_⟩
              rcases q121 with ⟨a124, a125, a126, a127⟩ | ⟨a128, a129, a130, a131⟩
              · have _q : True := trivial
                refine jx_ld (pc' := 244) (l' := L) (st' := [.ref 66]) rfl (jl_aloadn gL_0) ?_
                refine jx_ar (pc' := 245) (st' := [.ref 66, .ref 66]) rfl rfl rfl rfl ?_
                refine jr_get (pc' := 248) (i := 15) (v := .int (i32 (op1))) rfl rfl (by decide) (rFv_eq (by decide) (show G109 15 = op1 from ((hF115.1 15 rfl).trans (ex_op1)))) rfl ?_
                refine jx_ar (pc' := 249) (st' := [.int (i32 (1)), .int (i32 (op1)), .ref 66]) rfl rfl rfl rfl ?_
                refine jx_sub (pc' := 250) rfl rfl ?_
                refine jr_put (pc' := 253) (i := 15) (z := (op1 - 1)) rfl rfl (by decide) rfl rfl rfl rfl rfl rfl ?_
                have hW132 : Wk (uG G109 15 ((op1 - 1))) A110 := Wk_g hW114 (show (-2147483648 : Int) ≤ (op1 - 1) by omega) (show (op1 - 1) ≤ (2147483647 : Int) by omega)
                have hF133 := Fr_g (z := (op1 - 1)) (i := 15) hF122 (by decide)
                refine jx_ld (pc' := 254) (l' := L) (st' := [.ref 66]) rfl (jl_aloadn gL_0) ?_
                refine jx_vr (pc' := 257) (as := []) (st := []) rfl rfl rfl rfl ⟨rfl, rfl, Nat.le_of_ble_eq_true rfl⟩ rfl rfl (c_endLine (dd := d) (hd := by omega) (hW := hW132)  (ln := ln) (e_ln := show (uG G109 15 ((op1 - 1))) 9 = ln from ((hF115.1 9 rfl).trans (fx_9))) (li := li) (e_li := show (uG G109 15 ((op1 - 1))) 3 = li from ((hF115.1 3 rfl).trans ((hFx.1 3 rfl).trans (e_li)))) (fk := fk2_113) (e_fk := show (uG G109 15 ((op1 - 1))) 16 = fk2_113 from (e118)) (tk0 := tk2_112) (e_tk0 := show (uG G109 15 ((op1 - 1))) 11 = tk2_112 from (e117))    (p_0 := by omega)) (fun o V' hq => ?_)
                obtain ⟨G134, A135, ln2_136, fk2_137, rfl, rfl, hW138, hF139, e140, e141, q142⟩ := hq
                have hF143 := Fr_tr hF133 hF139 (Fr_sub (by decide)) (Fr_sub (by decide))
                have hP144 := Pf_f hP123 hF139 (by decide)
                have bln2_136 : (0 : Int) ≤ ln2_136 ∧ ln2_136 ≤ 3000 := e140 ▸ hW138.1 9
                have bfk2_137 : (0 : Int) ≤ fk2_137 ∧ fk2_137 ≤ 6 := e141 ▸ hW138.1 16
                refine .inl ⟨rfl, ?_⟩
                rcases q142 with ⟨a145, a146, a147, a148, a149⟩ | ⟨a150, a151⟩
                · have _q : True := trivial
                  exfalso
                  omega
                · have _q : True := trivial
                  refine jx_ld (pc' := 258) (l' := L) (st' := [.int (i32 (n))]) rfl (jl_iloadn gL_2) ?_
                  refine jx_rt (v := some (.int (i32 (n)))) rfl rfl rfl rfl rfl rfl ?_
                  exact ⟨_, _, _, at2_111, fk2_137, nd1, ln2_136, rfl, rfl, hW138, hF143, hP144, by omega, ((hF139.1 10 rfl).trans (e116)), (e141), ((hF139.1 31 rfl).trans ((hF115.1 31 rfl).trans (ex_nd1))), (e140), by omega, by omega, by omega, by omega, by omega, by first | exact Or.inl (⟨by omega, by omega, by omega⟩) | exact Or.inr ((⟨by omega, by omega, by omega, by omega, by omega⟩))⟩
              · have _q : True := trivial
                refine jx_ld (pc' := 244) (l' := L) (st' := [.ref 66]) rfl (jl_aloadn gL_0) ?_
                refine jx_ar (pc' := 245) (st' := [.ref 66, .ref 66]) rfl rfl rfl rfl ?_
                refine jr_get (pc' := 248) (i := 15) (v := .int (i32 (op1))) rfl rfl (by decide) (rFv_eq (by decide) (show G109 15 = op1 from ((hF115.1 15 rfl).trans (ex_op1)))) rfl ?_
                refine jx_ar (pc' := 249) (st' := [.int (i32 (1)), .int (i32 (op1)), .ref 66]) rfl rfl rfl rfl ?_
                refine jx_sub (pc' := 250) rfl rfl ?_
                refine jr_put (pc' := 253) (i := 15) (z := (op1 - 1)) rfl rfl (by decide) rfl rfl rfl rfl rfl rfl ?_
                have hW152 : Wk (uG G109 15 ((op1 - 1))) A110 := Wk_g hW114 (show (-2147483648 : Int) ≤ (op1 - 1) by omega) (show (op1 - 1) ≤ (2147483647 : Int) by omega)
                have hF153 := Fr_g (z := (op1 - 1)) (i := 15) hF122 (by decide)
                refine jx_ld (pc' := 254) (l' := L) (st' := [.ref 66]) rfl (jl_aloadn gL_0) ?_
                refine jx_vr (pc' := 257) (as := []) (st := []) rfl rfl rfl rfl ⟨rfl, rfl, Nat.le_of_ble_eq_true rfl⟩ rfl rfl (c_endLine (dd := d) (hd := by omega) (hW := hW152)  (ln := ln) (e_ln := show (uG G109 15 ((op1 - 1))) 9 = ln from ((hF115.1 9 rfl).trans (fx_9))) (li := li) (e_li := show (uG G109 15 ((op1 - 1))) 3 = li from ((hF115.1 3 rfl).trans ((hFx.1 3 rfl).trans (e_li)))) (fk := fk2_113) (e_fk := show (uG G109 15 ((op1 - 1))) 16 = fk2_113 from (e118)) (tk0 := tk2_112) (e_tk0 := show (uG G109 15 ((op1 - 1))) 11 = tk2_112 from (e117))    (p_0 := by omega)) (fun o V' hq => ?_)
                obtain ⟨G154, A155, ln2_156, fk2_157, rfl, rfl, hW158, hF159, e160, e161, q162⟩ := hq
                have hF163 := Fr_tr hF153 hF159 (Fr_sub (by decide)) (Fr_sub (by decide))
                have hP164 := Pf_f hP123 hF159 (by decide)
                have bln2_156 : (0 : Int) ≤ ln2_156 ∧ ln2_156 ≤ 3000 := e160 ▸ hW158.1 9
                have bfk2_157 : (0 : Int) ≤ fk2_157 ∧ fk2_157 ≤ 6 := e161 ▸ hW158.1 16
                refine .inl ⟨rfl, ?_⟩
                rcases q162 with ⟨a165, a166, a167, a168, a169⟩ | ⟨a170, a171⟩
                · have _q : True := trivial
                  refine jx_ld (pc' := 258) (l' := L) (st' := [.int (i32 (n))]) rfl (jl_iloadn gL_2) ?_
                  refine jx_rt (v := some (.int (i32 (n)))) rfl rfl rfl rfl rfl rfl ?_
                  exact ⟨_, _, _, at2_111, fk2_157, nd1, ln2_156, rfl, rfl, hW158, hF163, hP164, by omega, ((hF159.1 10 rfl).trans (e116)), (e161), ((hF159.1 31 rfl).trans ((hF115.1 31 rfl).trans (ex_nd1))), (e160), by omega, by omega, by omega, by omega, by omega, by first | exact Or.inl (⟨by omega, by omega, by omega⟩) | exact Or.inr ((⟨by omega, by omega, by omega, by omega, by omega⟩))⟩
                · have _q : True := trivial
                  refine jx_ld (pc' := 258) (l' := L) (st' := [.int (i32 (n))]) rfl (jl_iloadn gL_2) ?_
                  refine jx_rt (v := some (.int (i32 (n)))) rfl rfl rfl rfl rfl rfl ?_
                  exact ⟨_, _, _, at2_111, fk2_157, nd1, ln2_156, rfl, rfl, hW158, hF163, hP164, by omega, ((hF159.1 10 rfl).trans (e116)), (e161), ((hF159.1 31 rfl).trans ((hF115.1 31 rfl).trans (ex_nd1))), (e160), by omega, by omega, by omega, by omega, by omega, by first | exact Or.inl (⟨by omega, by omega, by omega⟩) | exact Or.inr ((⟨by omega, by omega, by omega, by omega, by omega⟩))⟩
            · have _q : True := trivial
              refine jx_vr (pc' := 243) (as := [.int (i32 (0))]) (st := []) rfl rfl rfl rfl ⟨rfl, rfl, Nat.le_of_ble_eq_true rfl⟩ rfl rfl (c_need (dd := d) (hd := by omega) (hW := hWx) (g := 0) (ln := ln) (e_ln := show Gx 9 = ln from (fx_9)) (le := le) (e_le := show Ax 4 (ln).toNat = le from (congrFun (hFx.2 4 rfl) _).trans (e_le)) (at0 := at1) (e_at0 := show Gx 10 = at1 from (ex_at1)) (fk := fk1) (e_fk := show Gx 16 = fk1 from (ex_fk1)) (tk0 := tk1) (e_tk0 := show Gx 11 = tk1 from (ex_tk1))  (h_g := ⟨(by decide), (by decide)⟩)  (p_0 := by omega)) (fun o V' hq => ?_)
              obtain ⟨G172, A173, at2_174, tk2_175, fk2_176, rfl, rfl, hW177, hF178, e179, e180, e181, p182, p183, q184⟩ := hq
              have hF185 := Fr_tr hFx hF178 (Fr_sub (by decide)) (Fr_sub (by decide))
              have hP186 := Pf_f hPx hF178 (by decide)
              have bat2_174 : (0 : Int) ≤ at2_174 ∧ at2_174 ≤ 3002 := e179 ▸ hW177.1 10
              have ztk2_175 := tz_b tk2_175
              have btk2_175 : (0 : Int) ≤ tk2_175 ∧ tk2_175 ≤ 5 := e180 ▸ hW177.1 11
              have bfk2_176 : (0 : Int) ≤ fk2_176 ∧ fk2_176 ≤ 6 := e181 ▸ hW177.1 16
              refine .inl ⟨rfl, ?_⟩
              rcases q184 with ⟨a187, a188, a189, a190⟩ | ⟨a191, a192, a193, a194⟩
              · have _q : True := trivial
                refine jx_ld (pc' := 244) (l' := L) (st' := [.ref 66]) rfl (jl_aloadn gL_0) ?_
                refine jx_ar (pc' := 245) (st' := [.ref 66, .ref 66]) rfl rfl rfl rfl ?_
                refine jr_get (pc' := 248) (i := 15) (v := .int (i32 (op1))) rfl rfl (by decide) (rFv_eq (by decide) (show G172 15 = op1 from ((hF178.1 15 rfl).trans (ex_op1)))) rfl ?_
                refine jx_ar (pc' := 249) (st' := [.int (i32 (1)), .int (i32 (op1)), .ref 66]) rfl rfl rfl rfl ?_
                refine jx_sub (pc' := 250) rfl rfl ?_
                refine jr_put (pc' := 253) (i := 15) (z := (op1 - 1)) rfl rfl (by decide) rfl rfl rfl rfl rfl rfl ?_
                have hW195 : Wk (uG G172 15 ((op1 - 1))) A173 := Wk_g hW177 (show (-2147483648 : Int) ≤ (op1 - 1) by omega) (show (op1 - 1) ≤ (2147483647 : Int) by omega)
                have hF196 := Fr_g (z := (op1 - 1)) (i := 15) hF185 (by decide)
                refine jx_ld (pc' := 254) (l' := L) (st' := [.ref 66]) rfl (jl_aloadn gL_0) ?_
                refine jx_vr (pc' := 257) (as := []) (st := []) rfl rfl rfl rfl ⟨rfl, rfl, Nat.le_of_ble_eq_true rfl⟩ rfl rfl (c_endLine (dd := d) (hd := by omega) (hW := hW195)  (ln := ln) (e_ln := show (uG G172 15 ((op1 - 1))) 9 = ln from ((hF178.1 9 rfl).trans (fx_9))) (li := li) (e_li := show (uG G172 15 ((op1 - 1))) 3 = li from ((hF178.1 3 rfl).trans ((hFx.1 3 rfl).trans (e_li)))) (fk := fk2_176) (e_fk := show (uG G172 15 ((op1 - 1))) 16 = fk2_176 from (e181)) (tk0 := tk2_175) (e_tk0 := show (uG G172 15 ((op1 - 1))) 11 = tk2_175 from (e180))    (p_0 := by omega)) (fun o V' hq => ?_)
                obtain ⟨G197, A198, ln2_199, fk2_200, rfl, rfl, hW201, hF202, e203, e204, q205⟩ := hq
                have hF206 := Fr_tr hF196 hF202 (Fr_sub (by decide)) (Fr_sub (by decide))
                have hP207 := Pf_f hP186 hF202 (by decide)
                have bln2_199 : (0 : Int) ≤ ln2_199 ∧ ln2_199 ≤ 3000 := e203 ▸ hW201.1 9
                have bfk2_200 : (0 : Int) ≤ fk2_200 ∧ fk2_200 ≤ 6 := e204 ▸ hW201.1 16
                refine .inl ⟨rfl, ?_⟩
                rcases q205 with ⟨a208, a209, a210, a211, a212⟩ | ⟨a213, a214⟩
                · have _q : True := trivial
                  exfalso
                  omega
                · have _q : True := trivial
                  refine jx_ld (pc' := 258) (l' := L) (st' := [.int (i32 (n))]) rfl (jl_iloadn gL_2) ?_
                  refine jx_rt (v := some (.int (i32 (n)))) rfl rfl rfl rfl rfl rfl ?_
                  exact ⟨_, _, _, at2_174, fk2_200, nd1, ln2_199, rfl, rfl, hW201, hF206, hP207, by omega, ((hF202.1 10 rfl).trans (e179)), (e204), ((hF202.1 31 rfl).trans ((hF178.1 31 rfl).trans (ex_nd1))), (e203), by omega, by omega, by omega, by omega, by omega, by first | exact Or.inl (⟨by omega, by omega, by omega⟩) | exact Or.inr ((⟨by omega, by omega, by omega, by omega, by omega⟩))⟩
              · have _q : True := trivial
                exfalso
                omega
          · have _q := h101
            refine jx_ld (pc' := 102) (l' := L) (st' := [.ref 66]) rfl (jl_aloadn gL_0) ?_
            refine jx_ld (pc' := 103) (l' := L) (st' := [.ref 66, .ref 66]) rfl (jl_aloadn gL_0) ?_
            refine jr_get (pc' := 106) (i := 47) (v := .ref 96) rfl rfl (by decide) rfl rfl ?_
            refine jx_ld (pc' := 107) (l' := L) (st' := [.ref 66, .ref 96, .ref 66]) rfl (jl_aloadn gL_0) ?_
            refine jr_get (pc' := 110) (i := 26) (v := .ref 79) rfl rfl (by decide) rfl rfl ?_
            refine jx_ld (pc' := 111) (l' := L) (st' := [.int (i32 (s)), .ref 79, .ref 96, .ref 66]) rfl (jl_iloadn gL_1) ?_
            have b215 : (0 : Int) ≤ A 12 (s).toNat ∧ A 12 (s).toNat ≤ 24 := hW.2 12 _
            refine jr_ldv (pc' := 112) (i := 12) (m := 260) (z := s) (y := A 12 (s).toNat) rfl (by decide) rfl (by decide) (by omega) (by omega) rfl (show Ax 12 (s).toNat = A 12 (s).toNat from (congrFun (hFx.2 12 rfl) _)) ?_
            have b216 : (0 : Int) ≤ A 29 (A 12 (s).toNat).toNat ∧ A 29 (A 12 (s).toNat).toNat ≤ 202 := hW.2 29 _
            refine jr_ldv (pc' := 113) (i := 29) (m := 25) (z := A 12 (s).toNat) (y := A 29 (A 12 (s).toNat).toNat) rfl (by decide) rfl (by decide) (Int.le_trans (by decide : (0 : Int) ≤ 0) b215.1) (Int.lt_of_le_of_lt b215.2 (by decide : (24 : Int) < ((25 : Nat) : Int))) rfl (show Ax 29 (A 12 (s).toNat).toNat = A 29 (A 12 (s).toNat).toNat from (congrFun (hFx.2 29 rfl) _)) ?_
            refine jx_ld (pc' := 115) (l' := L) (st' := [.int (i32 (kk)), .int (i32 (A 29 (A 12 (s).toNat).toNat)), .ref 66]) rfl (jl_iload gL_5) ?_
            refine jx_add (pc' := 116) rfl rfl ?_
            refine jx_vr (pc' := 119) (as := [.int (i32 ((A 29 (A 12 (s).toNat).toNat + kk)))]) (st := []) rfl rfl rfl rfl ⟨rfl, rfl, Nat.le_of_ble_eq_true rfl⟩ rfl rfl (c_readArgument (dd := d) (hd := by omega) (hW := hWx) (pa := (A 29 (A 12 (s).toNat).toNat + kk)) (ln := ln) (e_ln := show Gx 9 = ln from (fx_9)) (le := le) (e_le := show Ax 4 (ln).toNat = le from (congrFun (hFx.2 4 rfl) _).trans (e_le)) (at0 := at1) (e_at0 := show Gx 10 = at1 from (ex_at1)) (fk := fk1) (e_fk := show Gx 16 = fk1 from (ex_fk1)) (op0 := op1) (e_op0 := show Gx 15 = op1 from (ex_op1)) (nd := nd1) (e_nd := show Gx 31 = nd1 from (ex_nd1)) (tk0 := tk1) (e_tk0 := show Gx 11 = tk1 from (ex_tk1))  (h_pa := ⟨(by omega), (by omega)⟩)  (p_0 := by omega) (p_1 := by omega) (p_2 := by omega) (p_3 := by omega) (p_4 := by omega) (p_5 := by omega) (p_6 := by omega) (p_7 := by omega)) (fun o V' hq => ?_)
            obtain ⟨G217, A218, r219, at2_220, fk2_221, op2_222, nd2_223, tk2_224, rfl, rfl, hW225, hF226, hQ227, b228, e229, e230, e231, e232, e233, p234, p235, p236, p237, p238, p239, q240⟩ := hq
            have hF241 := Fr_tr hFx hF226 (Fr_sub (by decide)) (Fr_sub (by decide))
            have hP242 := Pf_tr hPx hQ227 (by omega)
            have bat2_220 : (0 : Int) ≤ at2_220 ∧ at2_220 ≤ 3002 := e229 ▸ hW225.1 10
            have bfk2_221 : (0 : Int) ≤ fk2_221 ∧ fk2_221 ≤ 6 := e230 ▸ hW225.1 16
            have bop2_222 : (-2147483648 : Int) ≤ op2_222 ∧ op2_222 ≤ 2147483647 := e231 ▸ hW225.1 15
            have bnd2_223 : (0 : Int) ≤ nd2_223 ∧ nd2_223 ≤ 6999 := e232 ▸ hW225.1 31
            have ztk2_224 := tz_b tk2_224
            have btk2_224 : (0 : Int) ≤ tk2_224 ∧ tk2_224 ≤ 5 := e233 ▸ hW225.1 11
            refine .inr ⟨_, rfl, ?_⟩
            rcases q240 with ⟨a243, a244, a245⟩ | ⟨a246, a247, a248, a249, a250⟩
            · have _q : True := trivial
              refine jx_ld (pc' := 121) (l' := jSto1 L 6 (.int (i32 (r219)))) (st' := []) rfl rfl ?_
              obtain ⟨L251, eL251⟩ : ∃ q, q = jSto1 L 6 (.int (i32 (r219))) := ⟨_, rfl⟩
              rw [← eL251]
              have gL251_0 : jGet L251 0 = some (.ref 66) := eL251 ▸ jg_ne (by decide) gL_0 rfl
              have gL251_1 : jGet L251 1 = some (.int (i32 (s))) := eL251 ▸ jg_ne (by decide) gL_1 rfl
              have gL251_2 : jGet L251 2 = some (.int (i32 (n))) := eL251 ▸ jg_ne (by decide) gL_2 rfl
              have gL251_3 : jGet L251 3 = some (.int (i32 (many))) := eL251 ▸ jg_ne (by decide) gL_3 rfl
              have gL251_4 : jGet L251 4 = some (.int (i32 (last))) := eL251 ▸ jg_ne (by decide) gL_4 rfl
              have gL251_5 : jGet L251 5 = some (.int (i32 (kk))) := eL251 ▸ jg_ne (by decide) gL_5 rfl
              have gL251_6 : jGet L251 6 = some (.int (i32 (r219))) := eL251 ▸ jg_eq
              refine jx_ld (pc' := 122) (l' := L251) (st' := [.ref 66]) rfl (jl_aloadn gL251_0) ?_
              refine jx_vr (pc' := 125) (as := []) (st := []) rfl rfl rfl rfl ⟨rfl, rfl, Nat.le_of_ble_eq_true rfl⟩ rfl rfl (c_bad (dd := d) (hd := by omega) (hW := hW225)  (fk := fk2_221) (e_fk := show G217 16 = fk2_221 from (e230))    ) (fun o V' hq => ?_)
              obtain ⟨r252, rfl, rfl, b253, q254⟩ := hq
              refine .inr ⟨_, rfl, ?_⟩
              rcases q254 with ⟨rfl, a255⟩ | ⟨rfl, a256⟩
              · have _q : True := trivial
                refine jx_if_eq (pc' := 128) (tg := 130) rfl rfl rfl (by decide) (by decide) (fun h257 => ?_) (fun h257 => ?_)
                · have _q := h257
                  exact absurd h257 (by omega)
                · have _q := h257
                  refine jx_ar (pc' := 129) (st' := [.int (i32 (0))]) rfl rfl rfl rfl ?_
                  refine jx_rt (v := some (.int (i32 (0)))) rfl rfl rfl rfl rfl rfl ?_
                  exact ⟨_, _, _, at2_220, fk2_221, nd2_223, ln, rfl, rfl, hW225, hF241, hP242, by omega, (e229), (e230), (e232), ((hF226.1 9 rfl).trans (fx_9)), by omega, by omega, by omega, by omega, by omega, by first | exact Or.inl (⟨by omega, by omega, by omega⟩) | exact Or.inr ((⟨by omega, by omega, by omega, by omega, by omega⟩))⟩
              · have _q : True := trivial
                exfalso
                omega
            · have _q : True := trivial
              refine jx_ld (pc' := 121) (l' := jSto1 L 6 (.int (i32 (r219)))) (st' := []) rfl rfl ?_
              obtain ⟨L258, eL258⟩ : ∃ q, q = jSto1 L 6 (.int (i32 (r219))) := ⟨_, rfl⟩
              rw [← eL258]
              have gL258_0 : jGet L258 0 = some (.ref 66) := eL258 ▸ jg_ne (by decide) gL_0 rfl
              have gL258_1 : jGet L258 1 = some (.int (i32 (s))) := eL258 ▸ jg_ne (by decide) gL_1 rfl
              have gL258_2 : jGet L258 2 = some (.int (i32 (n))) := eL258 ▸ jg_ne (by decide) gL_2 rfl
              have gL258_3 : jGet L258 3 = some (.int (i32 (many))) := eL258 ▸ jg_ne (by decide) gL_3 rfl
              have gL258_4 : jGet L258 4 = some (.int (i32 (last))) := eL258 ▸ jg_ne (by decide) gL_4 rfl
              have gL258_5 : jGet L258 5 = some (.int (i32 (kk))) := eL258 ▸ jg_ne (by decide) gL_5 rfl
              have gL258_6 : jGet L258 6 = some (.int (i32 (r219))) := eL258 ▸ jg_eq
              refine jx_ld (pc' := 122) (l' := L258) (st' := [.ref 66]) rfl (jl_aloadn gL258_0) ?_
              refine jx_vr (pc' := 125) (as := []) (st := []) rfl rfl rfl rfl ⟨rfl, rfl, Nat.le_of_ble_eq_true rfl⟩ rfl rfl (c_bad (dd := d) (hd := by omega) (hW := hW225)  (fk := fk2_221) (e_fk := show G217 16 = fk2_221 from (e230))    ) (fun o V' hq => ?_)
              obtain ⟨r259, rfl, rfl, b260, q261⟩ := hq
              refine .inr ⟨_, rfl, ?_⟩
              rcases q261 with ⟨rfl, a262⟩ | ⟨rfl, a263⟩
              · have _q : True := trivial
                exfalso
                omega
              · have _q : True := trivial
                refine jx_if_eq (pc' := 128) (tg := 130) rfl rfl rfl (by decide) (by decide) (fun h264 => ?_) (fun h264 => ?_)
                · have _q := h264
                  refine jx_ld (pc' := 132) (l' := L258) (st' := [.int (i32 (last))]) rfl (jl_iload gL258_4) ?_
                  refine jx_if_ne (pc' := 135) (tg := 146) rfl rfl rfl (Int.le_trans (by decide : (-2147483648 : Int) ≤ -2147483648) rx_last.1) (Int.le_trans rx_last.2 (by decide : (2147483647 : Int) ≤ 2147483647)) (fun h265 => ?_) (fun h265 => ?_)
                  · have _q := h265
                    refine jx_ld (pc' := 147) (l' := L258) (st' := [.ref 66]) rfl (jl_aloadn gL258_0) ?_
                    refine jr_get (pc' := 150) (i := 39) (v := .ref 89) rfl rfl (by decide) rfl rfl ?_
                    refine jx_ld (pc' := 152) (l' := L258) (st' := [.int (i32 (last)), .ref 89]) rfl (jl_iload gL258_4) ?_
                    refine jx_ld (pc' := 154) (l' := L258) (st' := [.int (i32 (r219)), .int (i32 (last)), .ref 89]) rfl (jl_iload gL258_6) ?_
                    refine jr_st (pc' := 155) (i := 22) (m := 7000) (z := last) (y := r219) rfl (by decide) rfl (by decide) (by omega) (by omega) rfl ?_
                    have hW267 : Wk G217 (uA A218 22 (last).toNat (r219)) := Wk_a hW225 (show (-2147483648 : Int) ≤ r219 by omega) (show r219 ≤ (2147483647 : Int) by omega)
                    have hF268 := Fr_a (z := r219) (k := 22) (n := (last).toNat) hF241 (by decide)
                    obtain ⟨A266, eA266⟩ : ∃ q, q = uA A218 22 (last).toNat (r219) := ⟨_, rfl⟩
                    rw [← eA266]
                    rw [← eA266] at hW267 hF268
                    have q269 : A266 22 (last).toNat = r219 := by rw [eA266]; exact uA_eq
                    have hP270 : Pf nd A A266 := eA266 ▸ Pf_a hP242 (z := last) (by omega) (by omega)
                    refine jx_ld (pc' := 157) (l' := L258) (st' := [.int (i32 (r219))]) rfl (jl_iload gL258_6) ?_
                    refine jx_ld (pc' := 159) (l' := jSto1 L258 4 (.int (i32 (r219)))) (st' := []) rfl rfl ?_
                    obtain ⟨L271, eL271⟩ : ∃ q, q = jSto1 L258 4 (.int (i32 (r219))) := ⟨_, rfl⟩
                    rw [← eL271]
                    have gL271_0 : jGet L271 0 = some (.ref 66) := eL271 ▸ jg_ne (by decide) gL258_0 rfl
                    have gL271_1 : jGet L271 1 = some (.int (i32 (s))) := eL271 ▸ jg_ne (by decide) gL258_1 rfl
                    have gL271_2 : jGet L271 2 = some (.int (i32 (n))) := eL271 ▸ jg_ne (by decide) gL258_2 rfl
                    have gL271_3 : jGet L271 3 = some (.int (i32 (many))) := eL271 ▸ jg_ne (by decide) gL258_3 rfl
                    have gL271_5 : jGet L271 5 = some (.int (i32 (kk))) := eL271 ▸ jg_ne (by decide) gL258_5 rfl
                    have gL271_6 : jGet L271 6 = some (.int (i32 (r219))) := eL271 ▸ jg_ne (by decide) gL258_6 rfl
                    have gL271_4 : jGet L271 4 = some (.int (i32 (r219))) := eL271 ▸ jg_eq
                    refine jx_inc (pc' := 162) (l' := jSto1 L271 5 (.int (i32 ((kk + (1)))))) (x := kk) rfl gL271_5 (by decide) rfl rfl ?_
                    obtain ⟨L272, eL272⟩ : ∃ q, q = jSto1 L271 5 (.int (i32 ((kk + (1))))) := ⟨_, rfl⟩
                    rw [← eL272]
                    have gL272_0 : jGet L272 0 = some (.ref 66) := eL272 ▸ jg_ne (by decide) gL271_0 rfl
                    have gL272_1 : jGet L272 1 = some (.int (i32 (s))) := eL272 ▸ jg_ne (by decide) gL271_1 rfl
                    have gL272_2 : jGet L272 2 = some (.int (i32 (n))) := eL272 ▸ jg_ne (by decide) gL271_2 rfl
                    have gL272_3 : jGet L272 3 = some (.int (i32 (many))) := eL272 ▸ jg_ne (by decide) gL271_3 rfl
                    have gL272_6 : jGet L272 6 = some (.int (i32 (r219))) := eL272 ▸ jg_ne (by decide) gL271_6 rfl
                    have gL272_4 : jGet L272 4 = some (.int (i32 (r219))) := eL272 ▸ jg_ne (by decide) gL271_4 rfl
                    have gL272_5 : jGet L272 5 = some (.int (i32 ((kk + (1))))) := eL272 ▸ jg_eq
                    refine jx_ld (pc' := 163) (l' := L272) (st' := [.ref 66]) rfl (jl_aloadn gL272_0) ?_
                    refine jx_ar (pc' := 165) (st' := [.int (i32 (44)), .ref 66]) rfl rfl rfl rfl ?_
                    have b273 : (-2147483648 : Int) ≤ G217 13 ∧ G217 13 ≤ 2147483647 := hW225.1 13
                    refine jx_vr (pc' := 168) (as := [.int (i32 (44))]) (st := []) rfl rfl rfl rfl ⟨rfl, rfl, Nat.le_of_ble_eq_true rfl⟩ rfl rfl (c_is (dd := d) (hd := by omega) (hW := hW267) (k := 44) (tk := tk2_224) (e_tk := show G217 11 = tk2_224 from (e233)) (tn := G217 13) (e_tn := show G217 13 = G217 13 from rfl)  (h_k := ⟨(by decide), (by decide)⟩)  ) (fun o V' hq => ?_)
                    obtain ⟨r274, rfl, rfl, b275, q276⟩ := hq
                    refine .inr ⟨_, rfl, ?_⟩
                    rcases q276 with ⟨rfl, a277, a278, a279⟩ | rfl
                    · have _q : True := trivial
                      refine jx_if_eq (pc' := 171) (tg := 194) rfl rfl rfl (by decide) (by decide) (fun h280 => ?_) (fun h280 => ?_)
                      · have _q := h280
                        exact absurd h280 (by omega)
                      · have _q := h280
                        refine jx_ld (pc' := 173) (l' := L272) (st' := [.int (i32 ((kk + (1))))]) rfl (jl_iload gL272_5) ?_
                        refine jx_ld (pc' := 174) (l' := L272) (st' := [.int (i32 (many)), .int (i32 ((kk + (1))))]) rfl (jl_iloadn gL272_3) ?_
                        refine jx_icmp_ne (pc' := 177) (tg := 186) rfl rfl rfl (by omega) (by omega) (Int.le_trans (by decide : (-2147483648 : Int) ≤ -2147483648) rx_many.1) (Int.le_trans rx_many.2 (by decide : (2147483647 : Int) ≤ 2147483647)) (fun h281 => ?_) (fun h281 => ?_)
                        · have _q := h281
                          refine jx_ld (pc' := 187) (l' := L272) (st' := [.ref 66]) rfl (jl_aloadn gL272_0) ?_
                          refine jx_ar (pc' := 188) (st' := [.int (i32 (1)), .ref 66]) rfl rfl rfl rfl ?_
                          refine jx_vr (pc' := 191) (as := [.int (i32 (1))]) (st := []) rfl rfl rfl rfl ⟨rfl, rfl, Nat.le_of_ble_eq_true rfl⟩ rfl rfl (c_need (dd := d) (hd := by omega) (hW := hW267) (g := 1) (ln := ln) (e_ln := show G217 9 = ln from ((hF226.1 9 rfl).trans (fx_9))) (le := le) (e_le := show A266 4 (ln).toNat = le from (congrFun (((congrFun eA266 4).trans (uA_ne (by decide))).trans ((hF226.2 4 rfl).trans (hFx.2 4 rfl))) _).trans (e_le)) (at0 := at2_220) (e_at0 := show G217 10 = at2_220 from (e229)) (fk := fk2_221) (e_fk := show G217 16 = fk2_221 from (e230)) (tk0 := tk2_224) (e_tk0 := show G217 11 = tk2_224 from (e233))  (h_g := ⟨(by decide), (by decide)⟩)  (p_0 := by omega)) (fun o V' hq => ?_)
                          obtain ⟨G282, A283, at2_284, tk2_285, fk2_286, rfl, rfl, hW287, hF288, e289, e290, e291, p292, p293, q294⟩ := hq
                          have hF295 := Fr_tr hF268 hF288 (Fr_sub (by decide)) (Fr_sub (by decide))
                          have hP296 := Pf_f hP270 hF288 (by decide)
                          have bat2_284 : (0 : Int) ≤ at2_284 ∧ at2_284 ≤ 3002 := e289 ▸ hW287.1 10
                          have ztk2_285 := tz_b tk2_285
                          have btk2_285 : (0 : Int) ≤ tk2_285 ∧ tk2_285 ≤ 5 := e290 ▸ hW287.1 11
                          have bfk2_286 : (0 : Int) ≤ fk2_286 ∧ fk2_286 ≤ 6 := e291 ▸ hW287.1 16
                          refine .inl ⟨rfl, ?_⟩
                          rcases q294 with ⟨a297, a298, a299, a300⟩ | ⟨a301, a302, a303, a304⟩
                          · have _q : True := trivial
                            refine jx_go (tg := 230) rfl rfl ?_
                            refine jx_go (tg := 88) rfl rfl ?_
                            have z305 := tz_f (tk2_285)
                            exact ih88 _ (by omega) L272 G282 A283 (n) (many) (r219) ((kk + (1))) (at2_284) (tk2_285) (fk2_286) (nd2_223) (op2_222) rfl gL272_0 gL272_1 gL272_2 gL272_3 gL272_4 gL272_5 hW287 hF295 hP296 ((e289)) ((e290)) ((e291)) (((hF288.1 31 rfl).trans (e232))) (((hF288.1 15 rfl).trans (e231))) (((hF288.1 9 rfl).trans ((hF226.1 9 rfl).trans (fx_9)))) (by omega) (by omega) (by omega) (by omega) (by omega) (by omega) (by omega) (by omega) (by omega) (by omega) (by omega) (by omega) (by omega) (by omega) (by omega) (by omega) (by omega)
                          · have _q : True := trivial
                            refine jx_go (tg := 230) rfl rfl ?_
                            refine jx_go (tg := 88) rfl rfl ?_
                            have z306 := tz_f (tk2_285)
                            exact ih88 _ (by omega) L272 G282 A283 (n) (many) (r219) ((kk + (1))) (at2_284) (tk2_285) (fk2_286) (nd2_223) (op2_222) rfl gL272_0 gL272_1 gL272_2 gL272_3 gL272_4 gL272_5 hW287 hF295 hP296 ((e289)) ((e290)) ((e291)) (((hF288.1 31 rfl).trans (e232))) (((hF288.1 15 rfl).trans (e231))) (((hF288.1 9 rfl).trans ((hF226.1 9 rfl).trans (fx_9)))) (by omega) (by omega) (by omega) (by omega) (by omega) (by omega) (by omega) (by omega) (by omega) (by omega) (by omega) (by omega) (by omega) (by omega) (by omega) (by omega) (by omega)
                        · have _q := h281
                          refine jx_ld (pc' := 178) (l' := L272) (st' := [.ref 66]) rfl (jl_aloadn gL272_0) ?_
                          refine jx_ar (pc' := 179) (st' := [.int (i32 (4)), .ref 66]) rfl rfl rfl rfl ?_
                          refine jx_ld (pc' := 180) (l' := L272) (st' := [.ref 66, .int (i32 (4)), .ref 66]) rfl (jl_aloadn gL272_0) ?_
                          have b307 : (-3000 : Int) ≤ G217 12 ∧ G217 12 ≤ 3002 := hW225.1 12
                          refine jr_get (pc' := 183) (i := 12) (v := .int (i32 (G217 12))) rfl rfl (by decide) rfl rfl ?_
                          refine jx_vr (pc' := 186) (as := [.int (i32 (4)), .int (i32 (G217 12))]) (st := []) rfl rfl rfl rfl ⟨rfl, rfl, Nat.le_of_ble_eq_true rfl⟩ rfl rfl (c_fail (dd := d) (hd := by omega) (hW := hW267) (kind := 4) (place := G217 12) (fk := fk2_221) (e_fk := show G217 16 = fk2_221 from (e230))  (h_kind := ⟨(by decide), (by decide)⟩) (h_place := ⟨(Int.le_trans (by decide : (-2147483648 : Int) ≤ -3000) b307.1), (Int.le_trans b307.2 (by decide : (3002 : Int) ≤ 2147483647))⟩)  (p_0 := by omega) (p_1 := by omega)) (fun o V' hq => ?_)
                          obtain ⟨G308, A309, fk2_310, rfl, rfl, hW311, hF312, e313, p314, -⟩ := hq
                          have hF316 := Fr_tr hF268 hF312 (Fr_sub (by decide)) (Fr_sub (by decide))
                          have hP317 := Pf_f hP270 hF312 (by decide)
                          have bfk2_310 : (0 : Int) ≤ fk2_310 ∧ fk2_310 ≤ 6 := e313 ▸ hW311.1 16
                          refine .inl ⟨rfl, ?_⟩
                          refine jx_ld (pc' := 187) (l' := L272) (st' := [.ref 66]) rfl (jl_aloadn gL272_0) ?_
                          refine jx_ar (pc' := 188) (st' := [.int (i32 (1)), .ref 66]) rfl rfl rfl rfl ?_
                          refine jx_vr (pc' := 191) (as := [.int (i32 (1))]) (st := []) rfl rfl rfl rfl ⟨rfl, rfl, Nat.le_of_ble_eq_true rfl⟩ rfl rfl (c_need (dd := d) (hd := by omega) (hW := hW311) (g := 1) (ln := ln) (e_ln := show G308 9 = ln from ((hF312.1 9 rfl).trans ((hF226.1 9 rfl).trans (fx_9)))) (le := le) (e_le := show A309 4 (ln).toNat = le from (congrFun ((hF312.2 4 rfl).trans (((congrFun eA266 4).trans (uA_ne (by decide))).trans ((hF226.2 4 rfl).trans (hFx.2 4 rfl)))) _).trans (e_le)) (at0 := at2_220) (e_at0 := show G308 10 = at2_220 from ((hF312.1 10 rfl).trans (e229))) (fk := fk2_310) (e_fk := show G308 16 = fk2_310 from (e313)) (tk0 := tk2_224) (e_tk0 := show G308 11 = tk2_224 from ((hF312.1 11 rfl).trans (e233)))  (h_g := ⟨(by decide), (by decide)⟩)  (p_0 := by omega)) (fun o V' hq => ?_)
                          obtain ⟨G318, A319, at2_320, tk2_321, fk2_322, rfl, rfl, hW323, hF324, e325, e326, e327, p328, p329, q330⟩ := hq
                          have hF331 := Fr_tr hF316 hF324 (Fr_sub (by decide)) (Fr_sub (by decide))
                          have hP332 := Pf_f hP317 hF324 (by decide)
                          have bat2_320 : (0 : Int) ≤ at2_320 ∧ at2_320 ≤ 3002 := e325 ▸ hW323.1 10
                          have ztk2_321 := tz_b tk2_321
                          have btk2_321 : (0 : Int) ≤ tk2_321 ∧ tk2_321 ≤ 5 := e326 ▸ hW323.1 11
                          have bfk2_322 : (0 : Int) ≤ fk2_322 ∧ fk2_322 ≤ 6 := e327 ▸ hW323.1 16
                          refine .inl ⟨rfl, ?_⟩
                          rcases q330 with ⟨a333, a334, a335, a336⟩ | ⟨a337, a338, a339, a340⟩
                          · have _q : True := trivial
                            refine jx_go (tg := 230) rfl rfl ?_
                            refine jx_go (tg := 88) rfl rfl ?_
                            have z341 := tz_f (tk2_321)
                            exact ih88 _ (by omega) L272 G318 A319 (n) (many) (r219) ((kk + (1))) (at2_320) (tk2_321) (fk2_322) (nd2_223) (op2_222) rfl gL272_0 gL272_1 gL272_2 gL272_3 gL272_4 gL272_5 hW323 hF331 hP332 ((e325)) ((e326)) ((e327)) (((hF324.1 31 rfl).trans ((hF312.1 31 rfl).trans (e232)))) (((hF324.1 15 rfl).trans ((hF312.1 15 rfl).trans (e231)))) (((hF324.1 9 rfl).trans ((hF312.1 9 rfl).trans ((hF226.1 9 rfl).trans (fx_9))))) (by omega) (by omega) (by omega) (by omega) (by omega) (by omega) (by omega) (by omega) (by omega) (by omega) (by omega) (by omega) (by omega) (by omega) (by omega) (by omega) (by omega)
                          · have _q : True := trivial
                            exfalso
                            omega
                    · have _q : True := trivial
                      refine jx_if_eq (pc' := 171) (tg := 194) rfl rfl rfl (by decide) (by decide) (fun h342 => ?_) (fun h342 => ?_)
                      · have _q := h342
                        refine jx_ld (pc' := 195) (l' := L272) (st' := [.ref 66]) rfl (jl_aloadn gL272_0) ?_
                        refine jx_ar (pc' := 197) (st' := [.int (i32 (41)), .ref 66]) rfl rfl rfl rfl ?_
                        refine jx_vr (pc' := 200) (as := [.int (i32 (41))]) (st := []) rfl rfl rfl rfl ⟨rfl, rfl, Nat.le_of_ble_eq_true rfl⟩ rfl rfl (c_is (dd := d) (hd := by omega) (hW := hW267) (k := 41) (tk := tk2_224) (e_tk := show G217 11 = tk2_224 from (e233)) (tn := G217 13) (e_tn := show G217 13 = G217 13 from rfl)  (h_k := ⟨(by decide), (by decide)⟩)  ) (fun o V' hq => ?_)
                        obtain ⟨r343, rfl, rfl, b344, q345⟩ := hq
                        refine .inr ⟨_, rfl, ?_⟩
                        rcases q345 with ⟨rfl, a346, a347, a348⟩ | rfl
                        · have _q : True := trivial
                          refine jx_if_eq (pc' := 203) (tg := 221) rfl rfl rfl (by decide) (by decide) (fun h349 => ?_) (fun h349 => ?_)
                          · have _q := h349
                            exact absurd h349 (by omega)
                          · have _q := h349
                            refine jx_ld (pc' := 205) (l' := L272) (st' := [.int (i32 ((kk + (1))))]) rfl (jl_iload gL272_5) ?_
                            refine jx_ld (pc' := 206) (l' := L272) (st' := [.int (i32 (many)), .int (i32 ((kk + (1))))]) rfl (jl_iloadn gL272_3) ?_
                            refine jx_icmp_ge (pc' := 209) (tg := 230) rfl rfl rfl (by omega) (by omega) (Int.le_trans (by decide : (-2147483648 : Int) ≤ -2147483648) rx_many.1) (Int.le_trans rx_many.2 (by decide : (2147483647 : Int) ≤ 2147483647)) (fun h350 => ?_) (fun h350 => ?_)
                            · have _q := h350
                              refine jx_go (tg := 88) rfl rfl ?_
                              have z351 := tz_f (tk2_224)
                              exact ih88 _ (by omega) L272 G217 A266 (n) (many) (r219) ((kk + (1))) (at2_220) (tk2_224) (fk2_221) (nd2_223) (op2_222) rfl gL272_0 gL272_1 gL272_2 gL272_3 gL272_4 gL272_5 hW267 hF268 hP270 ((e229)) ((e233)) ((e230)) ((e232)) ((e231)) (((hF226.1 9 rfl).trans (fx_9))) (by omega) (by omega) (by omega) (by omega) (by omega) (by omega) (by omega) (by omega) (by omega) (by omega) (by omega) (by omega) (by omega) (by omega) (by omega) (by omega) (by omega)
                            · have _q := h350
                              refine jx_ld (pc' := 210) (l' := L272) (st' := [.ref 66]) rfl (jl_aloadn gL272_0) ?_
                              refine jx_ar (pc' := 211) (st' := [.int (i32 (4)), .ref 66]) rfl rfl rfl rfl ?_
                              refine jx_ld (pc' := 212) (l' := L272) (st' := [.ref 66, .int (i32 (4)), .ref 66]) rfl (jl_aloadn gL272_0) ?_
                              have b352 : (-3000 : Int) ≤ G217 12 ∧ G217 12 ≤ 3002 := hW225.1 12
                              refine jr_get (pc' := 215) (i := 12) (v := .int (i32 (G217 12))) rfl rfl (by decide) rfl rfl ?_
                              refine jx_vr (pc' := 218) (as := [.int (i32 (4)), .int (i32 (G217 12))]) (st := []) rfl rfl rfl rfl ⟨rfl, rfl, Nat.le_of_ble_eq_true rfl⟩ rfl rfl (c_fail (dd := d) (hd := by omega) (hW := hW267) (kind := 4) (place := G217 12) (fk := fk2_221) (e_fk := show G217 16 = fk2_221 from (e230))  (h_kind := ⟨(by decide), (by decide)⟩) (h_place := ⟨(Int.le_trans (by decide : (-2147483648 : Int) ≤ -3000) b352.1), (Int.le_trans b352.2 (by decide : (3002 : Int) ≤ 2147483647))⟩)  (p_0 := by omega) (p_1 := by omega)) (fun o V' hq => ?_)
                              obtain ⟨G353, A354, fk2_355, rfl, rfl, hW356, hF357, e358, p359, -⟩ := hq
                              have hF361 := Fr_tr hF268 hF357 (Fr_sub (by decide)) (Fr_sub (by decide))
                              have hP362 := Pf_f hP270 hF357 (by decide)
                              have bfk2_355 : (0 : Int) ≤ fk2_355 ∧ fk2_355 ≤ 6 := e358 ▸ hW356.1 16
                              refine .inl ⟨rfl, ?_⟩
                              refine jx_go (tg := 230) rfl rfl ?_
                              refine jx_go (tg := 88) rfl rfl ?_
                              have z363 := tz_f (tk2_224)
                              exact ih88 _ (by omega) L272 G353 A354 (n) (many) (r219) ((kk + (1))) (at2_220) (tk2_224) (fk2_355) (nd2_223) (op2_222) rfl gL272_0 gL272_1 gL272_2 gL272_3 gL272_4 gL272_5 hW356 hF361 hP362 (((hF357.1 10 rfl).trans (e229))) (((hF357.1 11 rfl).trans (e233))) ((e358)) (((hF357.1 31 rfl).trans (e232))) (((hF357.1 15 rfl).trans (e231))) (((hF357.1 9 rfl).trans ((hF226.1 9 rfl).trans (fx_9)))) (by omega) (by omega) (by omega) (by omega) (by omega) (by omega) (by omega) (by omega) (by omega) (by omega) (by omega) (by omega) (by omega) (by omega) (by omega) (by omega) (by omega)
                        · have _q : True := trivial
                          refine jx_if_eq (pc' := 203) (tg := 221) rfl rfl rfl (by decide) (by decide) (fun h364 => ?_) (fun h364 => ?_)
                          · have _q := h364
                            refine jx_ld (pc' := 222) (l' := L272) (st' := [.ref 66]) rfl (jl_aloadn gL272_0) ?_
                            refine jx_ar (pc' := 223) (st' := [.int (i32 (1)), .ref 66]) rfl rfl rfl rfl ?_
                            refine jx_ld (pc' := 224) (l' := L272) (st' := [.ref 66, .int (i32 (1)), .ref 66]) rfl (jl_aloadn gL272_0) ?_
                            have b365 : (-3000 : Int) ≤ G217 12 ∧ G217 12 ≤ 3002 := hW225.1 12
                            refine jr_get (pc' := 227) (i := 12) (v := .int (i32 (G217 12))) rfl rfl (by decide) rfl rfl ?_
                            refine jx_vr (pc' := 230) (as := [.int (i32 (1)), .int (i32 (G217 12))]) (st := []) rfl rfl rfl rfl ⟨rfl, rfl, Nat.le_of_ble_eq_true rfl⟩ rfl rfl (c_fail (dd := d) (hd := by omega) (hW := hW267) (kind := 1) (place := G217 12) (fk := fk2_221) (e_fk := show G217 16 = fk2_221 from (e230))  (h_kind := ⟨(by decide), (by decide)⟩) (h_place := ⟨(Int.le_trans (by decide : (-2147483648 : Int) ≤ -3000) b365.1), (Int.le_trans b365.2 (by decide : (3002 : Int) ≤ 2147483647))⟩)  (p_0 := by omega) (p_1 := by omega)) (fun o V' hq => ?_)
                            obtain ⟨G366, A367, fk2_368, rfl, rfl, hW369, hF370, e371, p372, -⟩ := hq
                            have hF374 := Fr_tr hF268 hF370 (Fr_sub (by decide)) (Fr_sub (by decide))
                            have hP375 := Pf_f hP270 hF370 (by decide)
                            have bfk2_368 : (0 : Int) ≤ fk2_368 ∧ fk2_368 ≤ 6 := e371 ▸ hW369.1 16
                            refine .inl ⟨rfl, ?_⟩
                            refine jx_go (tg := 88) rfl rfl ?_
                            have z376 := tz_f (tk2_224)
                            exact ih88 _ (by omega) L272 G366 A367 (n) (many) (r219) ((kk + (1))) (at2_220) (tk2_224) (fk2_368) (nd2_223) (op2_222) rfl gL272_0 gL272_1 gL272_2 gL272_3 gL272_4 gL272_5 hW369 hF374 hP375 (((hF370.1 10 rfl).trans (e229))) (((hF370.1 11 rfl).trans (e233))) ((e371)) (((hF370.1 31 rfl).trans (e232))) (((hF370.1 15 rfl).trans (e231))) (((hF370.1 9 rfl).trans ((hF226.1 9 rfl).trans (fx_9)))) (by omega) (by omega) (by omega) (by omega) (by omega) (by omega) (by omega) (by omega) (by omega) (by omega) (by omega) (by omega) (by omega) (by omega) (by omega) (by omega) (by omega)
                          · have _q := h364
                            exact absurd h364 (by omega)
                      · have _q := h342
                        exact absurd h342 (by omega)
                  · have _q := h265
                    refine jx_ld (pc' := 136) (l' := L258) (st' := [.ref 66]) rfl (jl_aloadn gL258_0) ?_
                    refine jr_get (pc' := 139) (i := 38) (v := .ref 88) rfl rfl (by decide) rfl rfl ?_
                    refine jx_ld (pc' := 140) (l' := L258) (st' := [.int (i32 (n)), .ref 88]) rfl (jl_iloadn gL258_2) ?_
                    refine jx_ld (pc' := 142) (l' := L258) (st' := [.int (i32 (r219)), .int (i32 (n)), .ref 88]) rfl (jl_iload gL258_6) ?_
                    refine jr_st (pc' := 143) (i := 21) (m := 7000) (z := n) (y := r219) rfl (by decide) rfl (by decide) (by omega) (by omega) rfl ?_
                    have hW378 : Wk G217 (uA A218 21 (n).toNat (r219)) := Wk_a hW225 (show (-2147483648 : Int) ≤ r219 by omega) (show r219 ≤ (2147483647 : Int) by omega)
                    have hF379 := Fr_a (z := r219) (k := 21) (n := (n).toNat) hF241 (by decide)
                    obtain ⟨A377, eA377⟩ : ∃ q, q = uA A218 21 (n).toNat (r219) := ⟨_, rfl⟩
                    rw [← eA377]
                    rw [← eA377] at hW378 hF379
                    have q380 : A377 21 (n).toNat = r219 := by rw [eA377]; exact uA_eq
                    have hP381 : Pf nd A A377 := eA377 ▸ Pf_a hP242 (z := n) (by omega) (by omega)
                    refine jx_go (tg := 155) rfl rfl ?_
                    refine jx_ld (pc' := 157) (l' := L258) (st' := [.int (i32 (r219))]) rfl (jl_iload gL258_6) ?_
                    refine jx_ld (pc' := 159) (l' := jSto1 L258 4 (.int (i32 (r219)))) (st' := []) rfl rfl ?_
                    obtain ⟨L382, eL382⟩ : ∃ q, q = jSto1 L258 4 (.int (i32 (r219))) := ⟨_, rfl⟩
                    rw [← eL382]
                    have gL382_0 : jGet L382 0 = some (.ref 66) := eL382 ▸ jg_ne (by decide) gL258_0 rfl
                    have gL382_1 : jGet L382 1 = some (.int (i32 (s))) := eL382 ▸ jg_ne (by decide) gL258_1 rfl
                    have gL382_2 : jGet L382 2 = some (.int (i32 (n))) := eL382 ▸ jg_ne (by decide) gL258_2 rfl
                    have gL382_3 : jGet L382 3 = some (.int (i32 (many))) := eL382 ▸ jg_ne (by decide) gL258_3 rfl
                    have gL382_5 : jGet L382 5 = some (.int (i32 (kk))) := eL382 ▸ jg_ne (by decide) gL258_5 rfl
                    have gL382_6 : jGet L382 6 = some (.int (i32 (r219))) := eL382 ▸ jg_ne (by decide) gL258_6 rfl
                    have gL382_4 : jGet L382 4 = some (.int (i32 (r219))) := eL382 ▸ jg_eq
                    refine jx_inc (pc' := 162) (l' := jSto1 L382 5 (.int (i32 ((kk + (1)))))) (x := kk) rfl gL382_5 (by decide) rfl rfl ?_
                    obtain ⟨L383, eL383⟩ : ∃ q, q = jSto1 L382 5 (.int (i32 ((kk + (1))))) := ⟨_, rfl⟩
                    rw [← eL383]
                    have gL383_0 : jGet L383 0 = some (.ref 66) := eL383 ▸ jg_ne (by decide) gL382_0 rfl
                    have gL383_1 : jGet L383 1 = some (.int (i32 (s))) := eL383 ▸ jg_ne (by decide) gL382_1 rfl
                    have gL383_2 : jGet L383 2 = some (.int (i32 (n))) := eL383 ▸ jg_ne (by decide) gL382_2 rfl
                    have gL383_3 : jGet L383 3 = some (.int (i32 (many))) := eL383 ▸ jg_ne (by decide) gL382_3 rfl
                    have gL383_6 : jGet L383 6 = some (.int (i32 (r219))) := eL383 ▸ jg_ne (by decide) gL382_6 rfl
                    have gL383_4 : jGet L383 4 = some (.int (i32 (r219))) := eL383 ▸ jg_ne (by decide) gL382_4 rfl
                    have gL383_5 : jGet L383 5 = some (.int (i32 ((kk + (1))))) := eL383 ▸ jg_eq
                    refine jx_ld (pc' := 163) (l' := L383) (st' := [.ref 66]) rfl (jl_aloadn gL383_0) ?_
                    refine jx_ar (pc' := 165) (st' := [.int (i32 (44)), .ref 66]) rfl rfl rfl rfl ?_
                    have b384 : (-2147483648 : Int) ≤ G217 13 ∧ G217 13 ≤ 2147483647 := hW225.1 13
                    refine jx_vr (pc' := 168) (as := [.int (i32 (44))]) (st := []) rfl rfl rfl rfl ⟨rfl, rfl, Nat.le_of_ble_eq_true rfl⟩ rfl rfl (c_is (dd := d) (hd := by omega) (hW := hW378) (k := 44) (tk := tk2_224) (e_tk := show G217 11 = tk2_224 from (e233)) (tn := G217 13) (e_tn := show G217 13 = G217 13 from rfl)  (h_k := ⟨(by decide), (by decide)⟩)  ) (fun o V' hq => ?_)
                    obtain ⟨r385, rfl, rfl, b386, q387⟩ := hq
                    refine .inr ⟨_, rfl, ?_⟩
                    rcases q387 with ⟨rfl, a388, a389, a390⟩ | rfl
                    · have _q : True := trivial
                      refine jx_if_eq (pc' := 171) (tg := 194) rfl rfl rfl (by decide) (by decide) (fun h391 => ?_) (fun h391 => ?_)
                      · have _q := h391
                        exact absurd h391 (by omega)
                      · have _q := h391
                        refine jx_ld (pc' := 173) (l' := L383) (st' := [.int (i32 ((kk + (1))))]) rfl (jl_iload gL383_5) ?_
                        refine jx_ld (pc' := 174) (l' := L383) (st' := [.int (i32 (many)), .int (i32 ((kk + (1))))]) rfl (jl_iloadn gL383_3) ?_
                        refine jx_icmp_ne (pc' := 177) (tg := 186) rfl rfl rfl (by omega) (by omega) (Int.le_trans (by decide : (-2147483648 : Int) ≤ -2147483648) rx_many.1) (Int.le_trans rx_many.2 (by decide : (2147483647 : Int) ≤ 2147483647)) (fun h392 => ?_) (fun h392 => ?_)
                        · have _q := h392
                          refine jx_ld (pc' := 187) (l' := L383) (st' := [.ref 66]) rfl (jl_aloadn gL383_0) ?_
                          refine jx_ar (pc' := 188) (st' := [.int (i32 (1)), .ref 66]) rfl rfl rfl rfl ?_
                          refine jx_vr (pc' := 191) (as := [.int (i32 (1))]) (st := []) rfl rfl rfl rfl ⟨rfl, rfl, Nat.le_of_ble_eq_true rfl⟩ rfl rfl (c_need (dd := d) (hd := by omega) (hW := hW378) (g := 1) (ln := ln) (e_ln := show G217 9 = ln from ((hF226.1 9 rfl).trans (fx_9))) (le := le) (e_le := show A377 4 (ln).toNat = le from (congrFun (((congrFun eA377 4).trans (uA_ne (by decide))).trans ((hF226.2 4 rfl).trans (hFx.2 4 rfl))) _).trans (e_le)) (at0 := at2_220) (e_at0 := show G217 10 = at2_220 from (e229)) (fk := fk2_221) (e_fk := show G217 16 = fk2_221 from (e230)) (tk0 := tk2_224) (e_tk0 := show G217 11 = tk2_224 from (e233))  (h_g := ⟨(by decide), (by decide)⟩)  (p_0 := by omega)) (fun o V' hq => ?_)
                          obtain ⟨G393, A394, at2_395, tk2_396, fk2_397, rfl, rfl, hW398, hF399, e400, e401, e402, p403, p404, q405⟩ := hq
                          have hF406 := Fr_tr hF379 hF399 (Fr_sub (by decide)) (Fr_sub (by decide))
                          have hP407 := Pf_f hP381 hF399 (by decide)
                          have bat2_395 : (0 : Int) ≤ at2_395 ∧ at2_395 ≤ 3002 := e400 ▸ hW398.1 10
                          have ztk2_396 := tz_b tk2_396
                          have btk2_396 : (0 : Int) ≤ tk2_396 ∧ tk2_396 ≤ 5 := e401 ▸ hW398.1 11
                          have bfk2_397 : (0 : Int) ≤ fk2_397 ∧ fk2_397 ≤ 6 := e402 ▸ hW398.1 16
                          refine .inl ⟨rfl, ?_⟩
                          rcases q405 with ⟨a408, a409, a410, a411⟩ | ⟨a412, a413, a414, a415⟩
                          · have _q : True := trivial
                            refine jx_go (tg := 230) rfl rfl ?_
                            refine jx_go (tg := 88) rfl rfl ?_
                            have z416 := tz_f (tk2_396)
                            exact ih88 _ (by omega) L383 G393 A394 (n) (many) (r219) ((kk + (1))) (at2_395) (tk2_396) (fk2_397) (nd2_223) (op2_222) rfl gL383_0 gL383_1 gL383_2 gL383_3 gL383_4 gL383_5 hW398 hF406 hP407 ((e400)) ((e401)) ((e402)) (((hF399.1 31 rfl).trans (e232))) (((hF399.1 15 rfl).trans (e231))) (((hF399.1 9 rfl).trans ((hF226.1 9 rfl).trans (fx_9)))) (by omega) (by omega) (by omega) (by omega) (by omega) (by omega) (by omega) (by omega) (by omega) (by omega) (by omega) (by omega) (by omega) (by omega) (by omega) (by omega) (by omega)
                          · have _q : True := trivial
                            refine jx_go (tg := 230) rfl rfl ?_
                            refine jx_go (tg := 88) rfl rfl ?_
                            have z417 := tz_f (tk2_396)
                            exact ih88 _ (by omega) L383 G393 A394 (n) (many) (r219) ((kk + (1))) (at2_395) (tk2_396) (fk2_397) (nd2_223) (op2_222) rfl gL383_0 gL383_1 gL383_2 gL383_3 gL383_4 gL383_5 hW398 hF406 hP407 ((e400)) ((e401)) ((e402)) (((hF399.1 31 rfl).trans (e232))) (((hF399.1 15 rfl).trans (e231))) (((hF399.1 9 rfl).trans ((hF226.1 9 rfl).trans (fx_9)))) (by omega) (by omega) (by omega) (by omega) (by omega) (by omega) (by omega) (by omega) (by omega) (by omega) (by omega) (by omega) (by omega) (by omega) (by omega) (by omega) (by omega)
                        · have _q := h392
                          refine jx_ld (pc' := 178) (l' := L383) (st' := [.ref 66]) rfl (jl_aloadn gL383_0) ?_
                          refine jx_ar (pc' := 179) (st' := [.int (i32 (4)), .ref 66]) rfl rfl rfl rfl ?_
                          refine jx_ld (pc' := 180) (l' := L383) (st' := [.ref 66, .int (i32 (4)), .ref 66]) rfl (jl_aloadn gL383_0) ?_
                          have b418 : (-3000 : Int) ≤ G217 12 ∧ G217 12 ≤ 3002 := hW225.1 12
                          refine jr_get (pc' := 183) (i := 12) (v := .int (i32 (G217 12))) rfl rfl (by decide) rfl rfl ?_
                          refine jx_vr (pc' := 186) (as := [.int (i32 (4)), .int (i32 (G217 12))]) (st := []) rfl rfl rfl rfl ⟨rfl, rfl, Nat.le_of_ble_eq_true rfl⟩ rfl rfl (c_fail (dd := d) (hd := by omega) (hW := hW378) (kind := 4) (place := G217 12) (fk := fk2_221) (e_fk := show G217 16 = fk2_221 from (e230))  (h_kind := ⟨(by decide), (by decide)⟩) (h_place := ⟨(Int.le_trans (by decide : (-2147483648 : Int) ≤ -3000) b418.1), (Int.le_trans b418.2 (by decide : (3002 : Int) ≤ 2147483647))⟩)  (p_0 := by omega) (p_1 := by omega)) (fun o V' hq => ?_)
                          obtain ⟨G419, A420, fk2_421, rfl, rfl, hW422, hF423, e424, p425, -⟩ := hq
                          have hF427 := Fr_tr hF379 hF423 (Fr_sub (by decide)) (Fr_sub (by decide))
                          have hP428 := Pf_f hP381 hF423 (by decide)
                          have bfk2_421 : (0 : Int) ≤ fk2_421 ∧ fk2_421 ≤ 6 := e424 ▸ hW422.1 16
                          refine .inl ⟨rfl, ?_⟩
                          refine jx_ld (pc' := 187) (l' := L383) (st' := [.ref 66]) rfl (jl_aloadn gL383_0) ?_
                          refine jx_ar (pc' := 188) (st' := [.int (i32 (1)), .ref 66]) rfl rfl rfl rfl ?_
                          refine jx_vr (pc' := 191) (as := [.int (i32 (1))]) (st := []) rfl rfl rfl rfl ⟨rfl, rfl, Nat.le_of_ble_eq_true rfl⟩ rfl rfl (c_need (dd := d) (hd := by omega) (hW := hW422) (g := 1) (ln := ln) (e_ln := show G419 9 = ln from ((hF423.1 9 rfl).trans ((hF226.1 9 rfl).trans (fx_9)))) (le := le) (e_le := show A420 4 (ln).toNat = le from (congrFun ((hF423.2 4 rfl).trans (((congrFun eA377 4).trans (uA_ne (by decide))).trans ((hF226.2 4 rfl).trans (hFx.2 4 rfl)))) _).trans (e_le)) (at0 := at2_220) (e_at0 := show G419 10 = at2_220 from ((hF423.1 10 rfl).trans (e229))) (fk := fk2_421) (e_fk := show G419 16 = fk2_421 from (e424)) (tk0 := tk2_224) (e_tk0 := show G419 11 = tk2_224 from ((hF423.1 11 rfl).trans (e233)))  (h_g := ⟨(by decide), (by decide)⟩)  (p_0 := by omega)) (fun o V' hq => ?_)
                          obtain ⟨G429, A430, at2_431, tk2_432, fk2_433, rfl, rfl, hW434, hF435, e436, e437, e438, p439, p440, q441⟩ := hq
                          have hF442 := Fr_tr hF427 hF435 (Fr_sub (by decide)) (Fr_sub (by decide))
                          have hP443 := Pf_f hP428 hF435 (by decide)
                          have bat2_431 : (0 : Int) ≤ at2_431 ∧ at2_431 ≤ 3002 := e436 ▸ hW434.1 10
                          have ztk2_432 := tz_b tk2_432
                          have btk2_432 : (0 : Int) ≤ tk2_432 ∧ tk2_432 ≤ 5 := e437 ▸ hW434.1 11
                          have bfk2_433 : (0 : Int) ≤ fk2_433 ∧ fk2_433 ≤ 6 := e438 ▸ hW434.1 16
                          refine .inl ⟨rfl, ?_⟩
                          rcases q441 with ⟨a444, a445, a446, a447⟩ | ⟨a448, a449, a450, a451⟩
                          · have _q : True := trivial
                            refine jx_go (tg := 230) rfl rfl ?_
                            refine jx_go (tg := 88) rfl rfl ?_
                            have z452 := tz_f (tk2_432)
                            exact ih88 _ (by omega) L383 G429 A430 (n) (many) (r219) ((kk + (1))) (at2_431) (tk2_432) (fk2_433) (nd2_223) (op2_222) rfl gL383_0 gL383_1 gL383_2 gL383_3 gL383_4 gL383_5 hW434 hF442 hP443 ((e436)) ((e437)) ((e438)) (((hF435.1 31 rfl).trans ((hF423.1 31 rfl).trans (e232)))) (((hF435.1 15 rfl).trans ((hF423.1 15 rfl).trans (e231)))) (((hF435.1 9 rfl).trans ((hF423.1 9 rfl).trans ((hF226.1 9 rfl).trans (fx_9))))) (by omega) (by omega) (by omega) (by omega) (by omega) (by omega) (by omega) (by omega) (by omega) (by omega) (by omega) (by omega) (by omega) (by omega) (by omega) (by omega) (by omega)
                          · have _q : True := trivial
                            exfalso
                            omega
                    · have _q : True := trivial
                      refine jx_if_eq (pc' := 171) (tg := 194) rfl rfl rfl (by decide) (by decide) (fun h453 => ?_) (fun h453 => ?_)
                      · have _q := h453
                        refine jx_ld (pc' := 195) (l' := L383) (st' := [.ref 66]) rfl (jl_aloadn gL383_0) ?_
                        refine jx_ar (pc' := 197) (st' := [.int (i32 (41)), .ref 66]) rfl rfl rfl rfl ?_
                        refine jx_vr (pc' := 200) (as := [.int (i32 (41))]) (st := []) rfl rfl rfl rfl ⟨rfl, rfl, Nat.le_of_ble_eq_true rfl⟩ rfl rfl (c_is (dd := d) (hd := by omega) (hW := hW378) (k := 41) (tk := tk2_224) (e_tk := show G217 11 = tk2_224 from (e233)) (tn := G217 13) (e_tn := show G217 13 = G217 13 from rfl)  (h_k := ⟨(by decide), (by decide)⟩)  ) (fun o V' hq => ?_)
                        obtain ⟨r454, rfl, rfl, b455, q456⟩ := hq
                        refine .inr ⟨_, rfl, ?_⟩
                        rcases q456 with ⟨rfl, a457, a458, a459⟩ | rfl
                        · have _q : True := trivial
                          refine jx_if_eq (pc' := 203) (tg := 221) rfl rfl rfl (by decide) (by decide) (fun h460 => ?_) (fun h460 => ?_)
                          · have _q := h460
                            exact absurd h460 (by omega)
                          · have _q := h460
                            refine jx_ld (pc' := 205) (l' := L383) (st' := [.int (i32 ((kk + (1))))]) rfl (jl_iload gL383_5) ?_
                            refine jx_ld (pc' := 206) (l' := L383) (st' := [.int (i32 (many)), .int (i32 ((kk + (1))))]) rfl (jl_iloadn gL383_3) ?_
                            refine jx_icmp_ge (pc' := 209) (tg := 230) rfl rfl rfl (by omega) (by omega) (Int.le_trans (by decide : (-2147483648 : Int) ≤ -2147483648) rx_many.1) (Int.le_trans rx_many.2 (by decide : (2147483647 : Int) ≤ 2147483647)) (fun h461 => ?_) (fun h461 => ?_)
                            · have _q := h461
                              refine jx_go (tg := 88) rfl rfl ?_
                              have z462 := tz_f (tk2_224)
                              exact ih88 _ (by omega) L383 G217 A377 (n) (many) (r219) ((kk + (1))) (at2_220) (tk2_224) (fk2_221) (nd2_223) (op2_222) rfl gL383_0 gL383_1 gL383_2 gL383_3 gL383_4 gL383_5 hW378 hF379 hP381 ((e229)) ((e233)) ((e230)) ((e232)) ((e231)) (((hF226.1 9 rfl).trans (fx_9))) (by omega) (by omega) (by omega) (by omega) (by omega) (by omega) (by omega) (by omega) (by omega) (by omega) (by omega) (by omega) (by omega) (by omega) (by omega) (by omega) (by omega)
                            · have _q := h461
                              refine jx_ld (pc' := 210) (l' := L383) (st' := [.ref 66]) rfl (jl_aloadn gL383_0) ?_
                              refine jx_ar (pc' := 211) (st' := [.int (i32 (4)), .ref 66]) rfl rfl rfl rfl ?_
                              refine jx_ld (pc' := 212) (l' := L383) (st' := [.ref 66, .int (i32 (4)), .ref 66]) rfl (jl_aloadn gL383_0) ?_
                              have b463 : (-3000 : Int) ≤ G217 12 ∧ G217 12 ≤ 3002 := hW225.1 12
                              refine jr_get (pc' := 215) (i := 12) (v := .int (i32 (G217 12))) rfl rfl (by decide) rfl rfl ?_
                              refine jx_vr (pc' := 218) (as := [.int (i32 (4)), .int (i32 (G217 12))]) (st := []) rfl rfl rfl rfl ⟨rfl, rfl, Nat.le_of_ble_eq_true rfl⟩ rfl rfl (c_fail (dd := d) (hd := by omega) (hW := hW378) (kind := 4) (place := G217 12) (fk := fk2_221) (e_fk := show G217 16 = fk2_221 from (e230))  (h_kind := ⟨(by decide), (by decide)⟩) (h_place := ⟨(Int.le_trans (by decide : (-2147483648 : Int) ≤ -3000) b463.1), (Int.le_trans b463.2 (by decide : (3002 : Int) ≤ 2147483647))⟩)  (p_0 := by omega) (p_1 := by omega)) (fun o V' hq => ?_)
                              obtain ⟨G464, A465, fk2_466, rfl, rfl, hW467, hF468, e469, p470, -⟩ := hq
                              have hF472 := Fr_tr hF379 hF468 (Fr_sub (by decide)) (Fr_sub (by decide))
                              have hP473 := Pf_f hP381 hF468 (by decide)
                              have bfk2_466 : (0 : Int) ≤ fk2_466 ∧ fk2_466 ≤ 6 := e469 ▸ hW467.1 16
                              refine .inl ⟨rfl, ?_⟩
                              refine jx_go (tg := 230) rfl rfl ?_
                              refine jx_go (tg := 88) rfl rfl ?_
                              have z474 := tz_f (tk2_224)
                              exact ih88 _ (by omega) L383 G464 A465 (n) (many) (r219) ((kk + (1))) (at2_220) (tk2_224) (fk2_466) (nd2_223) (op2_222) rfl gL383_0 gL383_1 gL383_2 gL383_3 gL383_4 gL383_5 hW467 hF472 hP473 (((hF468.1 10 rfl).trans (e229))) (((hF468.1 11 rfl).trans (e233))) ((e469)) (((hF468.1 31 rfl).trans (e232))) (((hF468.1 15 rfl).trans (e231))) (((hF468.1 9 rfl).trans ((hF226.1 9 rfl).trans (fx_9)))) (by omega) (by omega) (by omega) (by omega) (by omega) (by omega) (by omega) (by omega) (by omega) (by omega) (by omega) (by omega) (by omega) (by omega) (by omega) (by omega) (by omega)
                        · have _q : True := trivial
                          refine jx_if_eq (pc' := 203) (tg := 221) rfl rfl rfl (by decide) (by decide) (fun h475 => ?_) (fun h475 => ?_)
                          · have _q := h475
                            refine jx_ld (pc' := 222) (l' := L383) (st' := [.ref 66]) rfl (jl_aloadn gL383_0) ?_
                            refine jx_ar (pc' := 223) (st' := [.int (i32 (1)), .ref 66]) rfl rfl rfl rfl ?_
                            refine jx_ld (pc' := 224) (l' := L383) (st' := [.ref 66, .int (i32 (1)), .ref 66]) rfl (jl_aloadn gL383_0) ?_
                            have b476 : (-3000 : Int) ≤ G217 12 ∧ G217 12 ≤ 3002 := hW225.1 12
                            refine jr_get (pc' := 227) (i := 12) (v := .int (i32 (G217 12))) rfl rfl (by decide) rfl rfl ?_
                            refine jx_vr (pc' := 230) (as := [.int (i32 (1)), .int (i32 (G217 12))]) (st := []) rfl rfl rfl rfl ⟨rfl, rfl, Nat.le_of_ble_eq_true rfl⟩ rfl rfl (c_fail (dd := d) (hd := by omega) (hW := hW378) (kind := 1) (place := G217 12) (fk := fk2_221) (e_fk := show G217 16 = fk2_221 from (e230))  (h_kind := ⟨(by decide), (by decide)⟩) (h_place := ⟨(Int.le_trans (by decide : (-2147483648 : Int) ≤ -3000) b476.1), (Int.le_trans b476.2 (by decide : (3002 : Int) ≤ 2147483647))⟩)  (p_0 := by omega) (p_1 := by omega)) (fun o V' hq => ?_)
                            obtain ⟨G477, A478, fk2_479, rfl, rfl, hW480, hF481, e482, p483, -⟩ := hq
                            have hF485 := Fr_tr hF379 hF481 (Fr_sub (by decide)) (Fr_sub (by decide))
                            have hP486 := Pf_f hP381 hF481 (by decide)
                            have bfk2_479 : (0 : Int) ≤ fk2_479 ∧ fk2_479 ≤ 6 := e482 ▸ hW480.1 16
                            refine .inl ⟨rfl, ?_⟩
                            refine jx_go (tg := 88) rfl rfl ?_
                            have z487 := tz_f (tk2_224)
                            exact ih88 _ (by omega) L383 G477 A478 (n) (many) (r219) ((kk + (1))) (at2_220) (tk2_224) (fk2_479) (nd2_223) (op2_222) rfl gL383_0 gL383_1 gL383_2 gL383_3 gL383_4 gL383_5 hW480 hF485 hP486 (((hF481.1 10 rfl).trans (e229))) (((hF481.1 11 rfl).trans (e233))) ((e482)) (((hF481.1 31 rfl).trans (e232))) (((hF481.1 15 rfl).trans (e231))) (((hF481.1 9 rfl).trans ((hF226.1 9 rfl).trans (fx_9)))) (by omega) (by omega) (by omega) (by omega) (by omega) (by omega) (by omega) (by omega) (by omega) (by omega) (by omega) (by omega) (by omega) (by omega) (by omega) (by omega) (by omega)
                          · have _q := h475
                            exact absurd h475 (by omega)
                      · have _q := h453
                        exact absurd h453 (by omega)
                · have _q := h264
                  exact absurd h264 (by omega)
  have at_57 : ∀ (L : jL) (Gx : Nat → Int) (Ax : Nat → Nat → Int) (n many at1 tk1 fk1 nd1 op1 : Int), jGet L 0 = some (.ref 66) → jGet L 1 = some (.int (i32 (s))) → jGet L 2 = some (.int (i32 n)) → jGet L 3 = some (.int (i32 many)) → Wk Gx Ax → Fr [9, 10, 11, 12, 13, 14, 15, 16, 17, 18, 31] [15, 16, 17, 18, 19, 20, 21, 22, 24, 28] G A Gx Ax → Pf nd A Ax → Gx 10 = at1 → Gx 11 = tk1 → Gx 16 = fk1 → Gx 31 = nd1 → Gx 15 = op1 → Gx 9 = ln → ((-2147483648 : Int) ≤ n ∧ n ≤ 2147483647) → ((-2147483648 : Int) ≤ many ∧ many ≤ 2147483647) → (at0 ≤ at1) → (at1 ≤ le) → (nd ≤ n ∧ n ≤ 6998) → (nd ≤ nd1 ∧ n < nd1) → (0 ≤ many ∧ many ≤ 6) → (1 ≤ fk1 ∨ op1 = op0 + 1) → (0 ≤ op1 ∧ op1 ≤ 9) → (1 ≤ fk1 ∨ op1 ≤ 8) → (nd1 - nd ≤ (2 * at1 - tz tk1) - (2 * at0 - tz tk0) + 1) → (1 ≤ fk1 ∨ nd1 - nd ≤ (2 * at1 - tz tk1) - (2 * at0 - tz tk0)) → wj X d jm305 (57, L, [], rV c0 c1 Gx Ax T) (fun o V' => ∃ (G' : Nat → Int) (A' : Nat → Nat → Int) (r : Int) (at2 : Int) (fk2 : Int) (nd2 : Int) (ln2 : Int), V' = rV c0 c1 G' A' T ∧ o = .inl (some (.int (i32 r))) ∧ Wk G' A' ∧ Fr [9, 10, 11, 12, 13, 14, 15, 16, 17, 18, 31] [15, 16, 17, 18, 19, 20, 21, 22, 24, 28] G A G' A' ∧ Pf nd A A' ∧ ((-2147483648 : Int) ≤ r ∧ r ≤ 2147483647) ∧ G' 10 = at2 ∧ G' 16 = fk2 ∧ G' 31 = nd2 ∧ G' 9 = ln2 ∧ (at0 ≤ at2) ∧ (at2 ≤ le) ∧ (nd ≤ nd2) ∧ (0 ≤ r) ∧ (r ≤ nd2) ∧ (((1 ≤ fk2) ∧ (ln2 = ln) ∧ (nd2 - nd ≤ 2 * at2 - 2 * at0 + 8)) ∨ ((fk2 = 0) ∧ (ln2 = ln + 1) ∧ (nd2 - nd ≤ 2 * at2 - (2 * at0 - tz tk0) + 0) ∧ (nd ≤ r) ∧ (r < nd2)))) := by
    intro L Gx Ax n many at1 tk1 fk1 nd1 op1 gL_0 gL_1 gL_2 gL_3 hWx hFx hPx ex_at1 ex_tk1 ex_fk1 ex_nd1 ex_op1 fx_9 rx_n rx_many iv_0 iv_1 iv_2 iv_3 iv_4 iv_5 iv_6 iv_7 iv_8 iv_9
    have b_at1 : (0 : Int) ≤ at1 ∧ at1 ≤ 3002 := ex_at1 ▸ hWx.1 10
    have z_tk1 := tz_f tk1
    have b_tk1 : (0 : Int) ≤ tk1 ∧ tk1 ≤ 5 := ex_tk1 ▸ hWx.1 11
    have b_fk1 : (0 : Int) ≤ fk1 ∧ fk1 ≤ 6 := ex_fk1 ▸ hWx.1 16
    have b_nd1 : (0 : Int) ≤ nd1 ∧ nd1 ≤ 6999 := ex_nd1 ▸ hWx.1 31
    have b_op1 : (-2147483648 : Int) ≤ op1 ∧ op1 ≤ 2147483647 := ex_op1 ▸ hWx.1 15
    refine jx_ld (pc' := 58) (l' := L) (st' := [.ref 66]) rfl (jl_aloadn gL_0) ?_
    refine jx_vr (pc' := 61) (as := []) (st := []) rfl rfl rfl rfl ⟨rfl, rfl, Nat.le_of_ble_eq_true rfl⟩ rfl rfl (c_bad (dd := d) (hd := by omega) (hW := hWx)  (fk := fk1) (e_fk := show Gx 16 = fk1 from (ex_fk1))    ) (fun o V' hq => ?_)
    obtain ⟨r488, rfl, rfl, b489, q490⟩ := hq
    refine .inr ⟨_, rfl, ?_⟩
    rcases q490 with ⟨rfl, a491⟩ | ⟨rfl, a492⟩
    · have _q : True := trivial
      refine jx_if_ne (pc' := 64) (tg := 82) rfl rfl rfl (by decide) (by decide) (fun h493 => ?_) (fun h493 => ?_)
      · have _q := h493
        refine jx_ar (pc' := 83) (st' := [.int (i32 (0))]) rfl rfl rfl rfl ?_
        refine jx_ld (pc' := 85) (l' := jSto1 L 4 (.int (i32 (0)))) (st' := []) rfl rfl ?_
        obtain ⟨L494, eL494⟩ : ∃ q, q = jSto1 L 4 (.int (i32 (0))) := ⟨_, rfl⟩
        rw [← eL494]
        have gL494_0 : jGet L494 0 = some (.ref 66) := eL494 ▸ jg_ne (by decide) gL_0 rfl
        have gL494_1 : jGet L494 1 = some (.int (i32 (s))) := eL494 ▸ jg_ne (by decide) gL_1 rfl
        have gL494_2 : jGet L494 2 = some (.int (i32 (n))) := eL494 ▸ jg_ne (by decide) gL_2 rfl
        have gL494_3 : jGet L494 3 = some (.int (i32 (many))) := eL494 ▸ jg_ne (by decide) gL_3 rfl
        have gL494_4 : jGet L494 4 = some (.int (i32 (0))) := eL494 ▸ jg_eq
        refine jx_ar (pc' := 86) (st' := [.int (i32 (0))]) rfl rfl rfl rfl ?_
        refine jx_ld (pc' := 88) (l' := jSto1 L494 5 (.int (i32 (0)))) (st' := []) rfl rfl ?_
        obtain ⟨L495, eL495⟩ : ∃ q, q = jSto1 L494 5 (.int (i32 (0))) := ⟨_, rfl⟩
        rw [← eL495]
        have gL495_0 : jGet L495 0 = some (.ref 66) := eL495 ▸ jg_ne (by decide) gL494_0 rfl
        have gL495_1 : jGet L495 1 = some (.int (i32 (s))) := eL495 ▸ jg_ne (by decide) gL494_1 rfl
        have gL495_2 : jGet L495 2 = some (.int (i32 (n))) := eL495 ▸ jg_ne (by decide) gL494_2 rfl
        have gL495_3 : jGet L495 3 = some (.int (i32 (many))) := eL495 ▸ jg_ne (by decide) gL494_3 rfl
        have gL495_4 : jGet L495 4 = some (.int (i32 (0))) := eL495 ▸ jg_ne (by decide) gL494_4 rfl
        have gL495_5 : jGet L495 5 = some (.int (i32 (0))) := eL495 ▸ jg_eq
        have z496 := tz_f (tk1)
        exact at_88 _ L495 Gx Ax (n) (many) (0) (0) (at1) (tk1) (fk1) (nd1) (op1) rfl gL495_0 gL495_1 gL495_2 gL495_3 gL495_4 gL495_5 hWx hFx hPx ((ex_at1)) ((ex_tk1)) ((ex_fk1)) ((ex_nd1)) ((ex_op1)) ((fx_9)) (by omega) (by omega) (by omega) (by omega) (by omega) (by omega) (by omega) (by omega) (by omega) (by omega) (by omega) (by omega) (by omega) (by omega) (by omega) (by omega) (by omega)
      · have _q := h493
        exact absurd h493 (by omega)
    · have _q : True := trivial
      refine jx_if_ne (pc' := 64) (tg := 82) rfl rfl rfl (by decide) (by decide) (fun h497 => ?_) (fun h497 => ?_)
      · have _q := h497
        exact absurd h497 (by omega)
      · have _q := h497
        refine jx_ld (pc' := 65) (l' := L) (st' := [.ref 66]) rfl (jl_aloadn gL_0) ?_
        refine jx_ar (pc' := 67) (st' := [.int (i32 (41)), .ref 66]) rfl rfl rfl rfl ?_
        have b498 : (-2147483648 : Int) ≤ Gx 13 ∧ Gx 13 ≤ 2147483647 := hWx.1 13
        refine jx_vr (pc' := 70) (as := [.int (i32 (41))]) (st := []) rfl rfl rfl rfl ⟨rfl, rfl, Nat.le_of_ble_eq_true rfl⟩ rfl rfl (c_is (dd := d) (hd := by omega) (hW := hWx) (k := 41) (tk := tk1) (e_tk := show Gx 11 = tk1 from (ex_tk1)) (tn := Gx 13) (e_tn := show Gx 13 = Gx 13 from rfl)  (h_k := ⟨(by decide), (by decide)⟩)  ) (fun o V' hq => ?_)
        obtain ⟨r499, rfl, rfl, b500, q501⟩ := hq
        refine .inr ⟨_, rfl, ?_⟩
        rcases q501 with ⟨rfl, a502, a503, a504⟩ | rfl
        · have _q : True := trivial
          refine jx_if_eq (pc' := 73) (tg := 82) rfl rfl rfl (by decide) (by decide) (fun h505 => ?_) (fun h505 => ?_)
          · have _q := h505
            exact absurd h505 (by omega)
          · have _q := h505
            refine jx_ld (pc' := 74) (l' := L) (st' := [.ref 66]) rfl (jl_aloadn gL_0) ?_
            refine jx_ar (pc' := 75) (st' := [.int (i32 (4)), .ref 66]) rfl rfl rfl rfl ?_
            refine jx_ld (pc' := 76) (l' := L) (st' := [.ref 66, .int (i32 (4)), .ref 66]) rfl (jl_aloadn gL_0) ?_
            have b506 : (-3000 : Int) ≤ Gx 12 ∧ Gx 12 ≤ 3002 := hWx.1 12
            refine jr_get (pc' := 79) (i := 12) (v := .int (i32 (Gx 12))) rfl rfl (by decide) rfl rfl ?_
            refine jx_vr (pc' := 82) (as := [.int (i32 (4)), .int (i32 (Gx 12))]) (st := []) rfl rfl rfl rfl ⟨rfl, rfl, Nat.le_of_ble_eq_true rfl⟩ rfl rfl (c_fail (dd := d) (hd := by omega) (hW := hWx) (kind := 4) (place := Gx 12) (fk := fk1) (e_fk := show Gx 16 = fk1 from (ex_fk1))  (h_kind := ⟨(by decide), (by decide)⟩) (h_place := ⟨(Int.le_trans (by decide : (-2147483648 : Int) ≤ -3000) b506.1), (Int.le_trans b506.2 (by decide : (3002 : Int) ≤ 2147483647))⟩)  (p_0 := by omega) (p_1 := by omega)) (fun o V' hq => ?_)
            obtain ⟨G507, A508, fk2_509, rfl, rfl, hW510, hF511, e512, p513, -⟩ := hq
            have hF515 := Fr_tr hFx hF511 (Fr_sub (by decide)) (Fr_sub (by decide))
            have hP516 := Pf_f hPx hF511 (by decide)
            have bfk2_509 : (0 : Int) ≤ fk2_509 ∧ fk2_509 ≤ 6 := e512 ▸ hW510.1 16
            refine .inl ⟨rfl, ?_⟩
            refine jx_ar (pc' := 83) (st' := [.int (i32 (0))]) rfl rfl rfl rfl ?_
            refine jx_ld (pc' := 85) (l' := jSto1 L 4 (.int (i32 (0)))) (st' := []) rfl rfl ?_
            obtain ⟨L517, eL517⟩ : ∃ q, q = jSto1 L 4 (.int (i32 (0))) := ⟨_, rfl⟩
            rw [← eL517]
            have gL517_0 : jGet L517 0 = some (.ref 66) := eL517 ▸ jg_ne (by decide) gL_0 rfl
            have gL517_1 : jGet L517 1 = some (.int (i32 (s))) := eL517 ▸ jg_ne (by decide) gL_1 rfl
            have gL517_2 : jGet L517 2 = some (.int (i32 (n))) := eL517 ▸ jg_ne (by decide) gL_2 rfl
            have gL517_3 : jGet L517 3 = some (.int (i32 (many))) := eL517 ▸ jg_ne (by decide) gL_3 rfl
            have gL517_4 : jGet L517 4 = some (.int (i32 (0))) := eL517 ▸ jg_eq
            refine jx_ar (pc' := 86) (st' := [.int (i32 (0))]) rfl rfl rfl rfl ?_
            refine jx_ld (pc' := 88) (l' := jSto1 L517 5 (.int (i32 (0)))) (st' := []) rfl rfl ?_
            obtain ⟨L518, eL518⟩ : ∃ q, q = jSto1 L517 5 (.int (i32 (0))) := ⟨_, rfl⟩
            rw [← eL518]
            have gL518_0 : jGet L518 0 = some (.ref 66) := eL518 ▸ jg_ne (by decide) gL517_0 rfl
            have gL518_1 : jGet L518 1 = some (.int (i32 (s))) := eL518 ▸ jg_ne (by decide) gL517_1 rfl
            have gL518_2 : jGet L518 2 = some (.int (i32 (n))) := eL518 ▸ jg_ne (by decide) gL517_2 rfl
            have gL518_3 : jGet L518 3 = some (.int (i32 (many))) := eL518 ▸ jg_ne (by decide) gL517_3 rfl
            have gL518_4 : jGet L518 4 = some (.int (i32 (0))) := eL518 ▸ jg_ne (by decide) gL517_4 rfl
            have gL518_5 : jGet L518 5 = some (.int (i32 (0))) := eL518 ▸ jg_eq
            have z519 := tz_f (tk1)
            exact at_88 _ L518 G507 A508 (n) (many) (0) (0) (at1) (tk1) (fk2_509) (nd1) (op1) rfl gL518_0 gL518_1 gL518_2 gL518_3 gL518_4 gL518_5 hW510 hF515 hP516 (((hF511.1 10 rfl).trans (ex_at1))) (((hF511.1 11 rfl).trans (ex_tk1))) ((e512)) (((hF511.1 31 rfl).trans (ex_nd1))) (((hF511.1 15 rfl).trans (ex_op1))) (((hF511.1 9 rfl).trans (fx_9))) (by omega) (by omega) (by omega) (by omega) (by omega) (by omega) (by omega) (by omega) (by omega) (by omega) (by omega) (by omega) (by omega) (by omega) (by omega) (by omega) (by omega)
        · have _q : True := trivial
          refine jx_if_eq (pc' := 73) (tg := 82) rfl rfl rfl (by decide) (by decide) (fun h520 => ?_) (fun h520 => ?_)
          · have _q := h520
            refine jx_ar (pc' := 83) (st' := [.int (i32 (0))]) rfl rfl rfl rfl ?_
            refine jx_ld (pc' := 85) (l' := jSto1 L 4 (.int (i32 (0)))) (st' := []) rfl rfl ?_
            obtain ⟨L521, eL521⟩ : ∃ q, q = jSto1 L 4 (.int (i32 (0))) := ⟨_, rfl⟩
            rw [← eL521]
            have gL521_0 : jGet L521 0 = some (.ref 66) := eL521 ▸ jg_ne (by decide) gL_0 rfl
            have gL521_1 : jGet L521 1 = some (.int (i32 (s))) := eL521 ▸ jg_ne (by decide) gL_1 rfl
            have gL521_2 : jGet L521 2 = some (.int (i32 (n))) := eL521 ▸ jg_ne (by decide) gL_2 rfl
            have gL521_3 : jGet L521 3 = some (.int (i32 (many))) := eL521 ▸ jg_ne (by decide) gL_3 rfl
            have gL521_4 : jGet L521 4 = some (.int (i32 (0))) := eL521 ▸ jg_eq
            refine jx_ar (pc' := 86) (st' := [.int (i32 (0))]) rfl rfl rfl rfl ?_
            refine jx_ld (pc' := 88) (l' := jSto1 L521 5 (.int (i32 (0)))) (st' := []) rfl rfl ?_
            obtain ⟨L522, eL522⟩ : ∃ q, q = jSto1 L521 5 (.int (i32 (0))) := ⟨_, rfl⟩
            rw [← eL522]
            have gL522_0 : jGet L522 0 = some (.ref 66) := eL522 ▸ jg_ne (by decide) gL521_0 rfl
            have gL522_1 : jGet L522 1 = some (.int (i32 (s))) := eL522 ▸ jg_ne (by decide) gL521_1 rfl
            have gL522_2 : jGet L522 2 = some (.int (i32 (n))) := eL522 ▸ jg_ne (by decide) gL521_2 rfl
            have gL522_3 : jGet L522 3 = some (.int (i32 (many))) := eL522 ▸ jg_ne (by decide) gL521_3 rfl
            have gL522_4 : jGet L522 4 = some (.int (i32 (0))) := eL522 ▸ jg_ne (by decide) gL521_4 rfl
            have gL522_5 : jGet L522 5 = some (.int (i32 (0))) := eL522 ▸ jg_eq
            have z523 := tz_f (tk1)
            exact at_88 _ L522 Gx Ax (n) (many) (0) (0) (at1) (tk1) (fk1) (nd1) (op1) rfl gL522_0 gL522_1 gL522_2 gL522_3 gL522_4 gL522_5 hWx hFx hPx ((ex_at1)) ((ex_tk1)) ((ex_fk1)) ((ex_nd1)) ((ex_op1)) ((fx_9)) (by omega) (by omega) (by omega) (by omega) (by omega) (by omega) (by omega) (by omega) (by omega) (by omega) (by omega) (by omega) (by omega) (by omega) (by omega) (by omega) (by omega)
          · have _q := h520
            exact absurd h520 (by omega)
  refine jx_ld (pc' := 1) (l' := [(0, .ref 66), (1, .int (i32 (s)))]) (st' := [.ref 66]) rfl (jl_aloadn rfl) ?_
  refine jx_ar (pc' := 3) (st' := [.int (i32 (25)), .ref 66]) rfl rfl rfl rfl ?_
  refine jx_ld (pc' := 4) (l' := [(0, .ref 66), (1, .int (i32 (s)))]) (st' := [.ref 66, .int (i32 (25)), .ref 66]) rfl (jl_aloadn rfl) ?_
  refine jr_get (pc' := 7) (i := 26) (v := .ref 79) rfl rfl (by decide) rfl rfl ?_
  refine jx_ld (pc' := 8) (l' := [(0, .ref 66), (1, .int (i32 (s)))]) (st' := [.int (i32 (s)), .ref 79, .int (i32 (25)), .ref 66]) rfl (jl_iloadn rfl) ?_
  have b524 : (0 : Int) ≤ A 12 (s).toNat ∧ A 12 (s).toNat ≤ 24 := hW.2 12 _
  refine jr_ldv (pc' := 9) (i := 12) (m := 260) (z := s) (y := A 12 (s).toNat) rfl (by decide) rfl (by decide) (by omega) (by omega) rfl (show A 12 (s).toNat = A 12 (s).toNat from rfl) ?_
  refine jx_ar (pc' := 10) (st' := [.int (i32 (0)), .int (i32 (A 12 (s).toNat)), .int (i32 (25)), .ref 66]) rfl rfl rfl rfl ?_
  refine jx_ar (pc' := 11) (st' := [.int (i32 (0)), .int (i32 (0)), .int (i32 (A 12 (s).toNat)), .int (i32 (25)), .ref 66]) rfl rfl rfl rfl ?_
  refine jx_ar (pc' := 12) (st' := [.int (i32 (0)), .int (i32 (0)), .int (i32 (0)), .int (i32 (A 12 (s).toNat)), .int (i32 (25)), .ref 66]) rfl rfl rfl rfl ?_
  refine jx_vr (pc' := 15) (as := [.int (i32 (25)), .int (i32 (A 12 (s).toNat)), .int (i32 (0)), .int (i32 (0)), .int (i32 (0))]) (st := []) rfl rfl rfl rfl ⟨rfl, rfl, Nat.le_of_ble_eq_true rfl⟩ rfl rfl (c_node (dd := d) (hd := by omega) (hW := hW) (kind := 25) (a := A 12 (s).toNat) (b := 0) (c := 0) (e := 0) (nd := nd) (e_nd := show G 31 = nd from (e_nd))  (h_kind := ⟨(by decide), (by decide)⟩) (h_a := ⟨(Int.le_trans (by decide : (-2147483648 : Int) ≤ 0) b524.1), (Int.le_trans b524.2 (by decide : (24 : Int) ≤ 2147483647))⟩) (h_b := ⟨(by decide), (by decide)⟩) (h_c := ⟨(by decide), (by decide)⟩) (h_e := ⟨(by decide), (by decide)⟩)  (p_0 := by omega) (p_1 := by omega)) (fun o V' hq => ?_)
  obtain ⟨G525, A526, nd2_527, rfl, rfl, hW528, hF529, hQ530, e531, p532, -⟩ := hq
  have hF534 := Fr_tr hF0 hF529 (Fr_sub (by decide)) (Fr_sub (by decide))
  have hP535 := Pf_tr hP0 hQ530 (by omega)
  have bnd2_527 : (0 : Int) ≤ nd2_527 ∧ nd2_527 ≤ 6999 := e531 ▸ hW528.1 31
  refine .inr ⟨_, rfl, ?_⟩
  refine jx_ld (pc' := 16) (l' := jSto1 [(0, .ref 66), (1, .int (i32 (s)))] 2 (.int (i32 (nd)))) (st' := []) rfl rfl ?_
  obtain ⟨L536, eL536⟩ : ∃ q, q = jSto1 [(0, .ref 66), (1, .int (i32 (s)))] 2 (.int (i32 (nd))) := ⟨_, rfl⟩
  rw [← eL536]
  have gL536_0 : jGet L536 0 = some (.ref 66) := eL536 ▸ jg_ne (by decide) (rfl : jGet [(0, .ref 66), (1, .int (i32 (s)))] 0 = some (.ref 66)) rfl
  have gL536_1 : jGet L536 1 = some (.int (i32 (s))) := eL536 ▸ jg_ne (by decide) (rfl : jGet [(0, .ref 66), (1, .int (i32 (s)))] 1 = some (.int (i32 (s)))) rfl
  have gL536_2 : jGet L536 2 = some (.int (i32 (nd))) := eL536 ▸ jg_eq
  refine jx_ld (pc' := 17) (l' := L536) (st' := [.ref 66]) rfl (jl_aloadn gL536_0) ?_
  refine jr_get (pc' := 20) (i := 48) (v := .ref 97) rfl rfl (by decide) rfl rfl ?_
  refine jx_ld (pc' := 21) (l' := L536) (st' := [.ref 66, .ref 97]) rfl (jl_aloadn gL536_0) ?_
  refine jr_get (pc' := 24) (i := 26) (v := .ref 79) rfl rfl (by decide) rfl rfl ?_
  refine jx_ld (pc' := 25) (l' := L536) (st' := [.int (i32 (s)), .ref 79, .ref 97]) rfl (jl_iloadn gL536_1) ?_
  refine jr_ldv (pc' := 26) (i := 12) (m := 260) (z := s) (y := A 12 (s).toNat) rfl (by decide) rfl (by decide) (by omega) (by omega) rfl (show A526 12 (s).toNat = A 12 (s).toNat from (congrFun (hF529.2 12 rfl) _)) ?_
  have b537 : (0 : Int) ≤ A 30 (A 12 (s).toNat).toNat ∧ A 30 (A 12 (s).toNat).toNat ≤ 6 := hW.2 30 _
  refine jr_ldv (pc' := 27) (i := 30) (m := 25) (z := A 12 (s).toNat) (y := A 30 (A 12 (s).toNat).toNat) rfl (by decide) rfl (by decide) (Int.le_trans (by decide : (0 : Int) ≤ 0) b524.1) (Int.lt_of_le_of_lt b524.2 (by decide : (24 : Int) < ((25 : Nat) : Int))) rfl (show A526 30 (A 12 (s).toNat).toNat = A 30 (A 12 (s).toNat).toNat from (congrFun (hF529.2 30 rfl) _)) ?_
  refine jx_ld (pc' := 28) (l' := jSto1 L536 3 (.int (i32 (A 30 (A 12 (s).toNat).toNat)))) (st' := []) rfl rfl ?_
  obtain ⟨L538, eL538⟩ : ∃ q, q = jSto1 L536 3 (.int (i32 (A 30 (A 12 (s).toNat).toNat))) := ⟨_, rfl⟩
  rw [← eL538]
  have gL538_0 : jGet L538 0 = some (.ref 66) := eL538 ▸ jg_ne (by decide) gL536_0 rfl
  have gL538_1 : jGet L538 1 = some (.int (i32 (s))) := eL538 ▸ jg_ne (by decide) gL536_1 rfl
  have gL538_2 : jGet L538 2 = some (.int (i32 (nd))) := eL538 ▸ jg_ne (by decide) gL536_2 rfl
  have gL538_3 : jGet L538 3 = some (.int (i32 (A 30 (A 12 (s).toNat).toNat))) := eL538 ▸ jg_eq
  refine jx_ld (pc' := 29) (l' := L538) (st' := [.ref 66]) rfl (jl_aloadn gL538_0) ?_
  refine jx_vr (pc' := 32) (as := []) (st := []) rfl rfl rfl rfl ⟨rfl, rfl, Nat.le_of_ble_eq_true rfl⟩ rfl rfl (c_open (dd := d) (hd := by omega) (hW := hW528)  (fk := fk) (e_fk := show G525 16 = fk from ((hF529.1 16 rfl).trans (e_fk))) (op0 := op0) (e_op0 := show G525 15 = op0 from ((hF529.1 15 rfl).trans (e_op0)))    (p_0 := by omega)) (fun o V' hq => ?_)
  obtain ⟨G539, A540, fk2_541, op2_542, rfl, rfl, hW543, hF544, e545, e546, p547, q548⟩ := hq
  have hF549 := Fr_tr hF534 hF544 (Fr_sub (by decide)) (Fr_sub (by decide))
  have hP550 := Pf_f hP535 hF544 (by decide)
  have bfk2_541 : (0 : Int) ≤ fk2_541 ∧ fk2_541 ≤ 6 := e545 ▸ hW543.1 16
  have bop2_542 : (-2147483648 : Int) ≤ op2_542 ∧ op2_542 ≤ 2147483647 := e546 ▸ hW543.1 15
  refine .inl ⟨rfl, ?_⟩
  rcases q548 with a551 | ⟨a552, a553, a554⟩
  · have _q : True := trivial
    refine jx_ld (pc' := 33) (l' := L538) (st' := [.ref 66]) rfl (jl_aloadn gL538_0) ?_
    refine jx_ar (pc' := 34) (st' := [.int (i32 (1)), .ref 66]) rfl rfl rfl rfl ?_
    refine jx_vr (pc' := 37) (as := [.int (i32 (1))]) (st := []) rfl rfl rfl rfl ⟨rfl, rfl, Nat.le_of_ble_eq_true rfl⟩ rfl rfl (c_need (dd := d) (hd := by omega) (hW := hW543) (g := 1) (ln := ln) (e_ln := show G539 9 = ln from ((hF544.1 9 rfl).trans ((hF529.1 9 rfl).trans (e_ln)))) (le := le) (e_le := show A540 4 (ln).toNat = le from (congrFun ((hF544.2 4 rfl).trans (hF529.2 4 rfl)) _).trans (e_le)) (at0 := at0) (e_at0 := show G539 10 = at0 from ((hF544.1 10 rfl).trans ((hF529.1 10 rfl).trans (e_at0)))) (fk := fk2_541) (e_fk := show G539 16 = fk2_541 from (e545)) (tk0 := tk0) (e_tk0 := show G539 11 = tk0 from ((hF544.1 11 rfl).trans ((hF529.1 11 rfl).trans (e_tk0))))  (h_g := ⟨(by decide), (by decide)⟩)  (p_0 := by omega)) (fun o V' hq => ?_)
    obtain ⟨G555, A556, at2_557, tk2_558, fk2_559, rfl, rfl, hW560, hF561, e562, e563, e564, p565, p566, q567⟩ := hq
    have hF568 := Fr_tr hF549 hF561 (Fr_sub (by decide)) (Fr_sub (by decide))
    have hP569 := Pf_f hP550 hF561 (by decide)
    have bat2_557 : (0 : Int) ≤ at2_557 ∧ at2_557 ≤ 3002 := e562 ▸ hW560.1 10
    have ztk2_558 := tz_b tk2_558
    have btk2_558 : (0 : Int) ≤ tk2_558 ∧ tk2_558 ≤ 5 := e563 ▸ hW560.1 11
    have bfk2_559 : (0 : Int) ≤ fk2_559 ∧ fk2_559 ≤ 6 := e564 ▸ hW560.1 16
    refine .inl ⟨rfl, ?_⟩
    rcases q567 with ⟨a570, a571, a572, a573⟩ | ⟨a574, a575, a576, a577⟩
    · have _q : True := trivial
      refine jx_ld (pc' := 38) (l' := L538) (st' := [.int (i32 (A 30 (A 12 (s).toNat).toNat))]) rfl (jl_iloadn gL538_3) ?_
      refine jx_if_ne (pc' := 41) (tg := 57) rfl rfl rfl (Int.le_trans (by decide : (-2147483648 : Int) ≤ 0) b537.1) (Int.le_trans b537.2 (by decide : (6 : Int) ≤ 2147483647)) (fun h578 => ?_) (fun h578 => ?_)
      · have _q := h578
        have z579 := tz_f (tk2_558)
        exact at_57 L538 G555 A556 (nd) (A 30 (A 12 (s).toNat).toNat) (at2_557) (tk2_558) (fk2_559) (nd2_527) (op2_542) gL538_0 gL538_1 gL538_2 gL538_3 hW560 hF568 hP569 ((e562)) ((e563)) ((e564)) (((hF561.1 31 rfl).trans ((hF544.1 31 rfl).trans (e531)))) (((hF561.1 15 rfl).trans (e546))) (((hF561.1 9 rfl).trans ((hF544.1 9 rfl).trans ((hF529.1 9 rfl).trans (e_ln))))) (by omega) (by omega) (by omega) (by omega) (by omega) (by omega) (by omega) (by omega) (by omega) (by omega) (by omega) (by omega)
      · have _q := h578
        refine jx_ld (pc' := 42) (l' := L538) (st' := [.ref 66]) rfl (jl_aloadn gL538_0) ?_
        refine jx_ld (pc' := 43) (l' := L538) (st' := [.ref 66, .ref 66]) rfl (jl_aloadn gL538_0) ?_
        refine jx_ar (pc' := 45) (st' := [.int (i32 (41)), .ref 66, .ref 66]) rfl rfl rfl rfl ?_
        have b580 : (-2147483648 : Int) ≤ G555 13 ∧ G555 13 ≤ 2147483647 := hW560.1 13
        refine jx_vr (pc' := 48) (as := [.int (i32 (41))]) (st := [.ref 66]) rfl rfl rfl rfl ⟨rfl, rfl, Nat.le_of_ble_eq_true rfl⟩ rfl rfl (c_is (dd := d) (hd := by omega) (hW := hW560) (k := 41) (tk := tk2_558) (e_tk := show G555 11 = tk2_558 from (e563)) (tn := G555 13) (e_tn := show G555 13 = G555 13 from rfl)  (h_k := ⟨(by decide), (by decide)⟩)  ) (fun o V' hq => ?_)
        obtain ⟨r581, rfl, rfl, b582, q583⟩ := hq
        refine .inr ⟨_, rfl, ?_⟩
        rcases q583 with ⟨rfl, a584, a585, a586⟩ | rfl
        · have _q : True := trivial
          refine jx_vr (pc' := 51) (as := [.int (i32 (1))]) (st := []) rfl rfl rfl rfl ⟨rfl, rfl, Nat.le_of_ble_eq_true rfl⟩ rfl rfl (c_need (dd := d) (hd := by omega) (hW := hW560) (g := 1) (ln := ln) (e_ln := show G555 9 = ln from ((hF561.1 9 rfl).trans ((hF544.1 9 rfl).trans ((hF529.1 9 rfl).trans (e_ln))))) (le := le) (e_le := show A556 4 (ln).toNat = le from (congrFun ((hF561.2 4 rfl).trans ((hF544.2 4 rfl).trans (hF529.2 4 rfl))) _).trans (e_le)) (at0 := at2_557) (e_at0 := show G555 10 = at2_557 from (e562)) (fk := fk2_559) (e_fk := show G555 16 = fk2_559 from (e564)) (tk0 := tk2_558) (e_tk0 := show G555 11 = tk2_558 from (e563))  (h_g := ⟨(by decide), (by decide)⟩)  (p_0 := by omega)) (fun o V' hq => ?_)
          obtain ⟨G587, A588, at2_589, tk2_590, fk2_591, rfl, rfl, hW592, hF593, e594, e595, e596, p597, p598, q599⟩ := hq
          have hF600 := Fr_tr hF568 hF593 (Fr_sub (by decide)) (Fr_sub (by decide))
          have hP601 := Pf_f hP569 hF593 (by decide)
          have bat2_589 : (0 : Int) ≤ at2_589 ∧ at2_589 ≤ 3002 := e594 ▸ hW592.1 10
          have ztk2_590 := tz_b tk2_590
          have btk2_590 : (0 : Int) ≤ tk2_590 ∧ tk2_590 ≤ 5 := e595 ▸ hW592.1 11
          have bfk2_591 : (0 : Int) ≤ fk2_591 ∧ fk2_591 ≤ 6 := e596 ▸ hW592.1 16
          refine .inl ⟨rfl, ?_⟩
          rcases q599 with ⟨a602, a603, a604, a605⟩ | ⟨a606, a607, a608, a609⟩
          · have _q : True := trivial
            refine jx_ld (pc' := 52) (l' := L538) (st' := [.ref 66]) rfl (jl_aloadn gL538_0) ?_
            refine jx_vr (pc' := 55) (as := []) (st := []) rfl rfl rfl rfl ⟨rfl, rfl, Nat.le_of_ble_eq_true rfl⟩ rfl rfl (c_endLine (dd := d) (hd := by omega) (hW := hW592)  (ln := ln) (e_ln := show G587 9 = ln from ((hF593.1 9 rfl).trans ((hF561.1 9 rfl).trans ((hF544.1 9 rfl).trans ((hF529.1 9 rfl).trans (e_ln)))))) (li := li) (e_li := show G587 3 = li from ((hF593.1 3 rfl).trans ((hF561.1 3 rfl).trans ((hF544.1 3 rfl).trans ((hF529.1 3 rfl).trans (e_li)))))) (fk := fk2_591) (e_fk := show G587 16 = fk2_591 from (e596)) (tk0 := tk2_590) (e_tk0 := show G587 11 = tk2_590 from (e595))    (p_0 := by omega)) (fun o V' hq => ?_)
            obtain ⟨G610, A611, ln2_612, fk2_613, rfl, rfl, hW614, hF615, e616, e617, q618⟩ := hq
            have hF619 := Fr_tr hF600 hF615 (Fr_sub (by decide)) (Fr_sub (by decide))
            have hP620 := Pf_f hP601 hF615 (by decide)
            have bln2_612 : (0 : Int) ≤ ln2_612 ∧ ln2_612 ≤ 3000 := e616 ▸ hW614.1 9
            have bfk2_613 : (0 : Int) ≤ fk2_613 ∧ fk2_613 ≤ 6 := e617 ▸ hW614.1 16
            refine .inl ⟨rfl, ?_⟩
            rcases q618 with ⟨a621, a622, a623, a624, a625⟩ | ⟨a626, a627⟩
            · have _q : True := trivial
              exfalso
              omega
            · have _q : True := trivial
              refine jx_ld (pc' := 56) (l' := L538) (st' := [.int (i32 (nd))]) rfl (jl_iloadn gL538_2) ?_
              refine jx_rt (v := some (.int (i32 (nd)))) rfl rfl rfl rfl rfl rfl ?_
              exact ⟨_, _, _, at2_589, fk2_613, nd2_527, ln2_612, rfl, rfl, hW614, hF619, hP620, by omega, ((hF615.1 10 rfl).trans (e594)), (e617), ((hF615.1 31 rfl).trans ((hF593.1 31 rfl).trans ((hF561.1 31 rfl).trans ((hF544.1 31 rfl).trans (e531))))), (e616), by omega, by omega, by omega, by omega, by omega, by first | exact Or.inl (⟨by omega, by omega, by omega⟩) | exact Or.inr ((⟨by omega, by omega, by omega, by omega, by omega⟩))⟩
          · have _q : True := trivial
            exfalso
            omega
        · have _q : True := trivial
          refine jx_vr (pc' := 51) (as := [.int (i32 (0))]) (st := []) rfl rfl rfl rfl ⟨rfl, rfl, Nat.le_of_ble_eq_true rfl⟩ rfl rfl (c_need (dd := d) (hd := by omega) (hW := hW560) (g := 0) (ln := ln) (e_ln := show G555 9 = ln from ((hF561.1 9 rfl).trans ((hF544.1 9 rfl).trans ((hF529.1 9 rfl).trans (e_ln))))) (le := le) (e_le := show A556 4 (ln).toNat = le from (congrFun ((hF561.2 4 rfl).trans ((hF544.2 4 rfl).trans (hF529.2 4 rfl))) _).trans (e_le)) (at0 := at2_557) (e_at0 := show G555 10 = at2_557 from (e562)) (fk := fk2_559) (e_fk := show G555 16 = fk2_559 from (e564)) (tk0 := tk2_558) (e_tk0 := show G555 11 = tk2_558 from (e563))  (h_g := ⟨(by decide), (by decide)⟩)  (p_0 := by omega)) (fun o V' hq => ?_)
          obtain ⟨G628, A629, at2_630, tk2_631, fk2_632, rfl, rfl, hW633, hF634, e635, e636, e637, p638, p639, q640⟩ := hq
          have hF641 := Fr_tr hF568 hF634 (Fr_sub (by decide)) (Fr_sub (by decide))
          have hP642 := Pf_f hP569 hF634 (by decide)
          have bat2_630 : (0 : Int) ≤ at2_630 ∧ at2_630 ≤ 3002 := e635 ▸ hW633.1 10
          have ztk2_631 := tz_b tk2_631
          have btk2_631 : (0 : Int) ≤ tk2_631 ∧ tk2_631 ≤ 5 := e636 ▸ hW633.1 11
          have bfk2_632 : (0 : Int) ≤ fk2_632 ∧ fk2_632 ≤ 6 := e637 ▸ hW633.1 16
          refine .inl ⟨rfl, ?_⟩
          rcases q640 with ⟨a643, a644, a645, a646⟩ | ⟨a647, a648, a649, a650⟩
          · have _q : True := trivial
            refine jx_ld (pc' := 52) (l' := L538) (st' := [.ref 66]) rfl (jl_aloadn gL538_0) ?_
            refine jx_vr (pc' := 55) (as := []) (st := []) rfl rfl rfl rfl ⟨rfl, rfl, Nat.le_of_ble_eq_true rfl⟩ rfl rfl (c_endLine (dd := d) (hd := by omega) (hW := hW633)  (ln := ln) (e_ln := show G628 9 = ln from ((hF634.1 9 rfl).trans ((hF561.1 9 rfl).trans ((hF544.1 9 rfl).trans ((hF529.1 9 rfl).trans (e_ln)))))) (li := li) (e_li := show G628 3 = li from ((hF634.1 3 rfl).trans ((hF561.1 3 rfl).trans ((hF544.1 3 rfl).trans ((hF529.1 3 rfl).trans (e_li)))))) (fk := fk2_632) (e_fk := show G628 16 = fk2_632 from (e637)) (tk0 := tk2_631) (e_tk0 := show G628 11 = tk2_631 from (e636))    (p_0 := by omega)) (fun o V' hq => ?_)
            obtain ⟨G651, A652, ln2_653, fk2_654, rfl, rfl, hW655, hF656, e657, e658, q659⟩ := hq
            have hF660 := Fr_tr hF641 hF656 (Fr_sub (by decide)) (Fr_sub (by decide))
            have hP661 := Pf_f hP642 hF656 (by decide)
            have bln2_653 : (0 : Int) ≤ ln2_653 ∧ ln2_653 ≤ 3000 := e657 ▸ hW655.1 9
            have bfk2_654 : (0 : Int) ≤ fk2_654 ∧ fk2_654 ≤ 6 := e658 ▸ hW655.1 16
            refine .inl ⟨rfl, ?_⟩
            rcases q659 with ⟨a662, a663, a664, a665, a666⟩ | ⟨a667, a668⟩
            · have _q : True := trivial
              exfalso
              omega
            · have _q : True := trivial
              refine jx_ld (pc' := 56) (l' := L538) (st' := [.int (i32 (nd))]) rfl (jl_iloadn gL538_2) ?_
              refine jx_rt (v := some (.int (i32 (nd)))) rfl rfl rfl rfl rfl rfl ?_
              exact ⟨_, _, _, at2_630, fk2_654, nd2_527, ln2_653, rfl, rfl, hW655, hF660, hP661, by omega, ((hF656.1 10 rfl).trans (e635)), (e658), ((hF656.1 31 rfl).trans ((hF634.1 31 rfl).trans ((hF561.1 31 rfl).trans ((hF544.1 31 rfl).trans (e531))))), (e657), by omega, by omega, by omega, by omega, by omega, by first | exact Or.inl (⟨by omega, by omega, by omega⟩) | exact Or.inr ((⟨by omega, by omega, by omega, by omega, by omega⟩))⟩
          · have _q : True := trivial
            exfalso
            omega
    · have _q : True := trivial
      exfalso
      omega
  · have _q : True := trivial
    refine jx_ld (pc' := 33) (l' := L538) (st' := [.ref 66]) rfl (jl_aloadn gL538_0) ?_
    refine jx_ar (pc' := 34) (st' := [.int (i32 (1)), .ref 66]) rfl rfl rfl rfl ?_
    refine jx_vr (pc' := 37) (as := [.int (i32 (1))]) (st := []) rfl rfl rfl rfl ⟨rfl, rfl, Nat.le_of_ble_eq_true rfl⟩ rfl rfl (c_need (dd := d) (hd := by omega) (hW := hW543) (g := 1) (ln := ln) (e_ln := show G539 9 = ln from ((hF544.1 9 rfl).trans ((hF529.1 9 rfl).trans (e_ln)))) (le := le) (e_le := show A540 4 (ln).toNat = le from (congrFun ((hF544.2 4 rfl).trans (hF529.2 4 rfl)) _).trans (e_le)) (at0 := at0) (e_at0 := show G539 10 = at0 from ((hF544.1 10 rfl).trans ((hF529.1 10 rfl).trans (e_at0)))) (fk := fk2_541) (e_fk := show G539 16 = fk2_541 from (e545)) (tk0 := tk0) (e_tk0 := show G539 11 = tk0 from ((hF544.1 11 rfl).trans ((hF529.1 11 rfl).trans (e_tk0))))  (h_g := ⟨(by decide), (by decide)⟩)  (p_0 := by omega)) (fun o V' hq => ?_)
    obtain ⟨G669, A670, at2_671, tk2_672, fk2_673, rfl, rfl, hW674, hF675, e676, e677, e678, p679, p680, q681⟩ := hq
    have hF682 := Fr_tr hF549 hF675 (Fr_sub (by decide)) (Fr_sub (by decide))
    have hP683 := Pf_f hP550 hF675 (by decide)
    have bat2_671 : (0 : Int) ≤ at2_671 ∧ at2_671 ≤ 3002 := e676 ▸ hW674.1 10
    have ztk2_672 := tz_b tk2_672
    have btk2_672 : (0 : Int) ≤ tk2_672 ∧ tk2_672 ≤ 5 := e677 ▸ hW674.1 11
    have bfk2_673 : (0 : Int) ≤ fk2_673 ∧ fk2_673 ≤ 6 := e678 ▸ hW674.1 16
    refine .inl ⟨rfl, ?_⟩
    rcases q681 with ⟨a684, a685, a686, a687⟩ | ⟨a688, a689, a690, a691⟩
    · have _q : True := trivial
      refine jx_ld (pc' := 38) (l' := L538) (st' := [.int (i32 (A 30 (A 12 (s).toNat).toNat))]) rfl (jl_iloadn gL538_3) ?_
      refine jx_if_ne (pc' := 41) (tg := 57) rfl rfl rfl (Int.le_trans (by decide : (-2147483648 : Int) ≤ 0) b537.1) (Int.le_trans b537.2 (by decide : (6 : Int) ≤ 2147483647)) (fun h692 => ?_) (fun h692 => ?_)
      · have _q := h692
        have z693 := tz_f (tk2_672)
        exact at_57 L538 G669 A670 (nd) (A 30 (A 12 (s).toNat).toNat) (at2_671) (tk2_672) (fk2_673) (nd2_527) (op2_542) gL538_0 gL538_1 gL538_2 gL538_3 hW674 hF682 hP683 ((e676)) ((e677)) ((e678)) (((hF675.1 31 rfl).trans ((hF544.1 31 rfl).trans (e531)))) (((hF675.1 15 rfl).trans (e546))) (((hF675.1 9 rfl).trans ((hF544.1 9 rfl).trans ((hF529.1 9 rfl).trans (e_ln))))) (by omega) (by omega) (by omega) (by omega) (by omega) (by omega) (by omega) (by omega) (by omega) (by omega) (by omega) (by omega)
      · have _q := h692
        refine jx_ld (pc' := 42) (l' := L538) (st' := [.ref 66]) rfl (jl_aloadn gL538_0) ?_
        refine jx_ld (pc' := 43) (l' := L538) (st' := [.ref 66, .ref 66]) rfl (jl_aloadn gL538_0) ?_
        refine jx_ar (pc' := 45) (st' := [.int (i32 (41)), .ref 66, .ref 66]) rfl rfl rfl rfl ?_
        have b694 : (-2147483648 : Int) ≤ G669 13 ∧ G669 13 ≤ 2147483647 := hW674.1 13
        refine jx_vr (pc' := 48) (as := [.int (i32 (41))]) (st := [.ref 66]) rfl rfl rfl rfl ⟨rfl, rfl, Nat.le_of_ble_eq_true rfl⟩ rfl rfl (c_is (dd := d) (hd := by omega) (hW := hW674) (k := 41) (tk := tk2_672) (e_tk := show G669 11 = tk2_672 from (e677)) (tn := G669 13) (e_tn := show G669 13 = G669 13 from rfl)  (h_k := ⟨(by decide), (by decide)⟩)  ) (fun o V' hq => ?_)
        obtain ⟨r695, rfl, rfl, b696, q697⟩ := hq
        refine .inr ⟨_, rfl, ?_⟩
        rcases q697 with ⟨rfl, a698, a699, a700⟩ | rfl
        · have _q : True := trivial
          refine jx_vr (pc' := 51) (as := [.int (i32 (1))]) (st := []) rfl rfl rfl rfl ⟨rfl, rfl, Nat.le_of_ble_eq_true rfl⟩ rfl rfl (c_need (dd := d) (hd := by omega) (hW := hW674) (g := 1) (ln := ln) (e_ln := show G669 9 = ln from ((hF675.1 9 rfl).trans ((hF544.1 9 rfl).trans ((hF529.1 9 rfl).trans (e_ln))))) (le := le) (e_le := show A670 4 (ln).toNat = le from (congrFun ((hF675.2 4 rfl).trans ((hF544.2 4 rfl).trans (hF529.2 4 rfl))) _).trans (e_le)) (at0 := at2_671) (e_at0 := show G669 10 = at2_671 from (e676)) (fk := fk2_673) (e_fk := show G669 16 = fk2_673 from (e678)) (tk0 := tk2_672) (e_tk0 := show G669 11 = tk2_672 from (e677))  (h_g := ⟨(by decide), (by decide)⟩)  (p_0 := by omega)) (fun o V' hq => ?_)
          obtain ⟨G701, A702, at2_703, tk2_704, fk2_705, rfl, rfl, hW706, hF707, e708, e709, e710, p711, p712, q713⟩ := hq
          have hF714 := Fr_tr hF682 hF707 (Fr_sub (by decide)) (Fr_sub (by decide))
          have hP715 := Pf_f hP683 hF707 (by decide)
          have bat2_703 : (0 : Int) ≤ at2_703 ∧ at2_703 ≤ 3002 := e708 ▸ hW706.1 10
          have ztk2_704 := tz_b tk2_704
          have btk2_704 : (0 : Int) ≤ tk2_704 ∧ tk2_704 ≤ 5 := e709 ▸ hW706.1 11
          have bfk2_705 : (0 : Int) ≤ fk2_705 ∧ fk2_705 ≤ 6 := e710 ▸ hW706.1 16
          refine .inl ⟨rfl, ?_⟩
          rcases q713 with ⟨a716, a717, a718, a719⟩ | ⟨a720, a721, a722, a723⟩
          · have _q : True := trivial
            refine jx_ld (pc' := 52) (l' := L538) (st' := [.ref 66]) rfl (jl_aloadn gL538_0) ?_
            refine jx_vr (pc' := 55) (as := []) (st := []) rfl rfl rfl rfl ⟨rfl, rfl, Nat.le_of_ble_eq_true rfl⟩ rfl rfl (c_endLine (dd := d) (hd := by omega) (hW := hW706)  (ln := ln) (e_ln := show G701 9 = ln from ((hF707.1 9 rfl).trans ((hF675.1 9 rfl).trans ((hF544.1 9 rfl).trans ((hF529.1 9 rfl).trans (e_ln)))))) (li := li) (e_li := show G701 3 = li from ((hF707.1 3 rfl).trans ((hF675.1 3 rfl).trans ((hF544.1 3 rfl).trans ((hF529.1 3 rfl).trans (e_li)))))) (fk := fk2_705) (e_fk := show G701 16 = fk2_705 from (e710)) (tk0 := tk2_704) (e_tk0 := show G701 11 = tk2_704 from (e709))    (p_0 := by omega)) (fun o V' hq => ?_)
            obtain ⟨G724, A725, ln2_726, fk2_727, rfl, rfl, hW728, hF729, e730, e731, q732⟩ := hq
            have hF733 := Fr_tr hF714 hF729 (Fr_sub (by decide)) (Fr_sub (by decide))
            have hP734 := Pf_f hP715 hF729 (by decide)
            have bln2_726 : (0 : Int) ≤ ln2_726 ∧ ln2_726 ≤ 3000 := e730 ▸ hW728.1 9
            have bfk2_727 : (0 : Int) ≤ fk2_727 ∧ fk2_727 ≤ 6 := e731 ▸ hW728.1 16
            refine .inl ⟨rfl, ?_⟩
            rcases q732 with ⟨a735, a736, a737, a738, a739⟩ | ⟨a740, a741⟩
            · have _q : True := trivial
              exfalso
              omega
            · have _q : True := trivial
              refine jx_ld (pc' := 56) (l' := L538) (st' := [.int (i32 (nd))]) rfl (jl_iloadn gL538_2) ?_
              refine jx_rt (v := some (.int (i32 (nd)))) rfl rfl rfl rfl rfl rfl ?_
              exact ⟨_, _, _, at2_703, fk2_727, nd2_527, ln2_726, rfl, rfl, hW728, hF733, hP734, by omega, ((hF729.1 10 rfl).trans (e708)), (e731), ((hF729.1 31 rfl).trans ((hF707.1 31 rfl).trans ((hF675.1 31 rfl).trans ((hF544.1 31 rfl).trans (e531))))), (e730), by omega, by omega, by omega, by omega, by omega, by first | exact Or.inl (⟨by omega, by omega, by omega⟩) | exact Or.inr ((⟨by omega, by omega, by omega, by omega, by omega⟩))⟩
          · have _q : True := trivial
            exfalso
            omega
        · have _q : True := trivial
          refine jx_vr (pc' := 51) (as := [.int (i32 (0))]) (st := []) rfl rfl rfl rfl ⟨rfl, rfl, Nat.le_of_ble_eq_true rfl⟩ rfl rfl (c_need (dd := d) (hd := by omega) (hW := hW674) (g := 0) (ln := ln) (e_ln := show G669 9 = ln from ((hF675.1 9 rfl).trans ((hF544.1 9 rfl).trans ((hF529.1 9 rfl).trans (e_ln))))) (le := le) (e_le := show A670 4 (ln).toNat = le from (congrFun ((hF675.2 4 rfl).trans ((hF544.2 4 rfl).trans (hF529.2 4 rfl))) _).trans (e_le)) (at0 := at2_671) (e_at0 := show G669 10 = at2_671 from (e676)) (fk := fk2_673) (e_fk := show G669 16 = fk2_673 from (e678)) (tk0 := tk2_672) (e_tk0 := show G669 11 = tk2_672 from (e677))  (h_g := ⟨(by decide), (by decide)⟩)  (p_0 := by omega)) (fun o V' hq => ?_)
          obtain ⟨G742, A743, at2_744, tk2_745, fk2_746, rfl, rfl, hW747, hF748, e749, e750, e751, p752, p753, q754⟩ := hq
          have hF755 := Fr_tr hF682 hF748 (Fr_sub (by decide)) (Fr_sub (by decide))
          have hP756 := Pf_f hP683 hF748 (by decide)
          have bat2_744 : (0 : Int) ≤ at2_744 ∧ at2_744 ≤ 3002 := e749 ▸ hW747.1 10
          have ztk2_745 := tz_b tk2_745
          have btk2_745 : (0 : Int) ≤ tk2_745 ∧ tk2_745 ≤ 5 := e750 ▸ hW747.1 11
          have bfk2_746 : (0 : Int) ≤ fk2_746 ∧ fk2_746 ≤ 6 := e751 ▸ hW747.1 16
          refine .inl ⟨rfl, ?_⟩
          rcases q754 with ⟨a757, a758, a759, a760⟩ | ⟨a761, a762, a763, a764⟩
          · have _q : True := trivial
            refine jx_ld (pc' := 52) (l' := L538) (st' := [.ref 66]) rfl (jl_aloadn gL538_0) ?_
            refine jx_vr (pc' := 55) (as := []) (st := []) rfl rfl rfl rfl ⟨rfl, rfl, Nat.le_of_ble_eq_true rfl⟩ rfl rfl (c_endLine (dd := d) (hd := by omega) (hW := hW747)  (ln := ln) (e_ln := show G742 9 = ln from ((hF748.1 9 rfl).trans ((hF675.1 9 rfl).trans ((hF544.1 9 rfl).trans ((hF529.1 9 rfl).trans (e_ln)))))) (li := li) (e_li := show G742 3 = li from ((hF748.1 3 rfl).trans ((hF675.1 3 rfl).trans ((hF544.1 3 rfl).trans ((hF529.1 3 rfl).trans (e_li)))))) (fk := fk2_746) (e_fk := show G742 16 = fk2_746 from (e751)) (tk0 := tk2_745) (e_tk0 := show G742 11 = tk2_745 from (e750))    (p_0 := by omega)) (fun o V' hq => ?_)
            obtain ⟨G765, A766, ln2_767, fk2_768, rfl, rfl, hW769, hF770, e771, e772, q773⟩ := hq
            have hF774 := Fr_tr hF755 hF770 (Fr_sub (by decide)) (Fr_sub (by decide))
            have hP775 := Pf_f hP756 hF770 (by decide)
            have bln2_767 : (0 : Int) ≤ ln2_767 ∧ ln2_767 ≤ 3000 := e771 ▸ hW769.1 9
            have bfk2_768 : (0 : Int) ≤ fk2_768 ∧ fk2_768 ≤ 6 := e772 ▸ hW769.1 16
            refine .inl ⟨rfl, ?_⟩
            rcases q773 with ⟨a776, a777, a778, a779, a780⟩ | ⟨a781, a782⟩
            · have _q : True := trivial
              exfalso
              omega
            · have _q : True := trivial
              refine jx_ld (pc' := 56) (l' := L538) (st' := [.int (i32 (nd))]) rfl (jl_iloadn gL538_2) ?_
              refine jx_rt (v := some (.int (i32 (nd)))) rfl rfl rfl rfl rfl rfl ?_
              exact ⟨_, _, _, at2_744, fk2_768, nd2_527, ln2_767, rfl, rfl, hW769, hF774, hP775, by omega, ((hF770.1 10 rfl).trans (e749)), (e772), ((hF770.1 31 rfl).trans ((hF748.1 31 rfl).trans ((hF675.1 31 rfl).trans ((hF544.1 31 rfl).trans (e531))))), (e771), by omega, by omega, by omega, by omega, by omega, by first | exact Or.inl (⟨by omega, by omega, by omega⟩) | exact Or.inr ((⟨by omega, by omega, by omega, by omega, by omega⟩))⟩
          · have _q : True := trivial
            exfalso
            omega
    · have _q : True := trivial
      refine jx_ld (pc' := 38) (l' := L538) (st' := [.int (i32 (A 30 (A 12 (s).toNat).toNat))]) rfl (jl_iloadn gL538_3) ?_
      refine jx_if_ne (pc' := 41) (tg := 57) rfl rfl rfl (Int.le_trans (by decide : (-2147483648 : Int) ≤ 0) b537.1) (Int.le_trans b537.2 (by decide : (6 : Int) ≤ 2147483647)) (fun h783 => ?_) (fun h783 => ?_)
      · have _q := h783
        have z784 := tz_f (tk2_672)
        exact at_57 L538 G669 A670 (nd) (A 30 (A 12 (s).toNat).toNat) (at2_671) (tk2_672) (fk2_673) (nd2_527) (op2_542) gL538_0 gL538_1 gL538_2 gL538_3 hW674 hF682 hP683 ((e676)) ((e677)) ((e678)) (((hF675.1 31 rfl).trans ((hF544.1 31 rfl).trans (e531)))) (((hF675.1 15 rfl).trans (e546))) (((hF675.1 9 rfl).trans ((hF544.1 9 rfl).trans ((hF529.1 9 rfl).trans (e_ln))))) (by omega) (by omega) (by omega) (by omega) (by omega) (by omega) (by omega) (by omega) (by omega) (by omega) (by omega) (by omega)
      · have _q := h783
        refine jx_ld (pc' := 42) (l' := L538) (st' := [.ref 66]) rfl (jl_aloadn gL538_0) ?_
        refine jx_ld (pc' := 43) (l' := L538) (st' := [.ref 66, .ref 66]) rfl (jl_aloadn gL538_0) ?_
        refine jx_ar (pc' := 45) (st' := [.int (i32 (41)), .ref 66, .ref 66]) rfl rfl rfl rfl ?_
        have b785 : (-2147483648 : Int) ≤ G669 13 ∧ G669 13 ≤ 2147483647 := hW674.1 13
        refine jx_vr (pc' := 48) (as := [.int (i32 (41))]) (st := [.ref 66]) rfl rfl rfl rfl ⟨rfl, rfl, Nat.le_of_ble_eq_true rfl⟩ rfl rfl (c_is (dd := d) (hd := by omega) (hW := hW674) (k := 41) (tk := tk2_672) (e_tk := show G669 11 = tk2_672 from (e677)) (tn := G669 13) (e_tn := show G669 13 = G669 13 from rfl)  (h_k := ⟨(by decide), (by decide)⟩)  ) (fun o V' hq => ?_)
        obtain ⟨r786, rfl, rfl, b787, q788⟩ := hq
        refine .inr ⟨_, rfl, ?_⟩
        rcases q788 with ⟨rfl, a789, a790, a791⟩ | rfl
        · have _q : True := trivial
          refine jx_vr (pc' := 51) (as := [.int (i32 (1))]) (st := []) rfl rfl rfl rfl ⟨rfl, rfl, Nat.le_of_ble_eq_true rfl⟩ rfl rfl (c_need (dd := d) (hd := by omega) (hW := hW674) (g := 1) (ln := ln) (e_ln := show G669 9 = ln from ((hF675.1 9 rfl).trans ((hF544.1 9 rfl).trans ((hF529.1 9 rfl).trans (e_ln))))) (le := le) (e_le := show A670 4 (ln).toNat = le from (congrFun ((hF675.2 4 rfl).trans ((hF544.2 4 rfl).trans (hF529.2 4 rfl))) _).trans (e_le)) (at0 := at2_671) (e_at0 := show G669 10 = at2_671 from (e676)) (fk := fk2_673) (e_fk := show G669 16 = fk2_673 from (e678)) (tk0 := tk2_672) (e_tk0 := show G669 11 = tk2_672 from (e677))  (h_g := ⟨(by decide), (by decide)⟩)  (p_0 := by omega)) (fun o V' hq => ?_)
          obtain ⟨G792, A793, at2_794, tk2_795, fk2_796, rfl, rfl, hW797, hF798, e799, e800, e801, p802, p803, q804⟩ := hq
          have hF805 := Fr_tr hF682 hF798 (Fr_sub (by decide)) (Fr_sub (by decide))
          have hP806 := Pf_f hP683 hF798 (by decide)
          have bat2_794 : (0 : Int) ≤ at2_794 ∧ at2_794 ≤ 3002 := e799 ▸ hW797.1 10
          have ztk2_795 := tz_b tk2_795
          have btk2_795 : (0 : Int) ≤ tk2_795 ∧ tk2_795 ≤ 5 := e800 ▸ hW797.1 11
          have bfk2_796 : (0 : Int) ≤ fk2_796 ∧ fk2_796 ≤ 6 := e801 ▸ hW797.1 16
          refine .inl ⟨rfl, ?_⟩
          rcases q804 with ⟨a807, a808, a809, a810⟩ | ⟨a811, a812, a813, a814⟩
          · have _q : True := trivial
            refine jx_ld (pc' := 52) (l' := L538) (st' := [.ref 66]) rfl (jl_aloadn gL538_0) ?_
            refine jx_vr (pc' := 55) (as := []) (st := []) rfl rfl rfl rfl ⟨rfl, rfl, Nat.le_of_ble_eq_true rfl⟩ rfl rfl (c_endLine (dd := d) (hd := by omega) (hW := hW797)  (ln := ln) (e_ln := show G792 9 = ln from ((hF798.1 9 rfl).trans ((hF675.1 9 rfl).trans ((hF544.1 9 rfl).trans ((hF529.1 9 rfl).trans (e_ln)))))) (li := li) (e_li := show G792 3 = li from ((hF798.1 3 rfl).trans ((hF675.1 3 rfl).trans ((hF544.1 3 rfl).trans ((hF529.1 3 rfl).trans (e_li)))))) (fk := fk2_796) (e_fk := show G792 16 = fk2_796 from (e801)) (tk0 := tk2_795) (e_tk0 := show G792 11 = tk2_795 from (e800))    (p_0 := by omega)) (fun o V' hq => ?_)
            obtain ⟨G815, A816, ln2_817, fk2_818, rfl, rfl, hW819, hF820, e821, e822, q823⟩ := hq
            have hF824 := Fr_tr hF805 hF820 (Fr_sub (by decide)) (Fr_sub (by decide))
            have hP825 := Pf_f hP806 hF820 (by decide)
            have bln2_817 : (0 : Int) ≤ ln2_817 ∧ ln2_817 ≤ 3000 := e821 ▸ hW819.1 9
            have bfk2_818 : (0 : Int) ≤ fk2_818 ∧ fk2_818 ≤ 6 := e822 ▸ hW819.1 16
            refine .inl ⟨rfl, ?_⟩
            rcases q823 with ⟨a826, a827, a828, a829, a830⟩ | ⟨a831, a832⟩
            · have _q : True := trivial
              exfalso
              omega
            · have _q : True := trivial
              refine jx_ld (pc' := 56) (l' := L538) (st' := [.int (i32 (nd))]) rfl (jl_iloadn gL538_2) ?_
              refine jx_rt (v := some (.int (i32 (nd)))) rfl rfl rfl rfl rfl rfl ?_
              exact ⟨_, _, _, at2_794, fk2_818, nd2_527, ln2_817, rfl, rfl, hW819, hF824, hP825, by omega, ((hF820.1 10 rfl).trans (e799)), (e822), ((hF820.1 31 rfl).trans ((hF798.1 31 rfl).trans ((hF675.1 31 rfl).trans ((hF544.1 31 rfl).trans (e531))))), (e821), by omega, by omega, by omega, by omega, by omega, by first | exact Or.inl (⟨by omega, by omega, by omega⟩) | exact Or.inr ((⟨by omega, by omega, by omega, by omega, by omega⟩))⟩
          · have _q : True := trivial
            refine jx_ld (pc' := 52) (l' := L538) (st' := [.ref 66]) rfl (jl_aloadn gL538_0) ?_
            refine jx_vr (pc' := 55) (as := []) (st := []) rfl rfl rfl rfl ⟨rfl, rfl, Nat.le_of_ble_eq_true rfl⟩ rfl rfl (c_endLine (dd := d) (hd := by omega) (hW := hW797)  (ln := ln) (e_ln := show G792 9 = ln from ((hF798.1 9 rfl).trans ((hF675.1 9 rfl).trans ((hF544.1 9 rfl).trans ((hF529.1 9 rfl).trans (e_ln)))))) (li := li) (e_li := show G792 3 = li from ((hF798.1 3 rfl).trans ((hF675.1 3 rfl).trans ((hF544.1 3 rfl).trans ((hF529.1 3 rfl).trans (e_li)))))) (fk := fk2_796) (e_fk := show G792 16 = fk2_796 from (e801)) (tk0 := tk2_795) (e_tk0 := show G792 11 = tk2_795 from (e800))    (p_0 := by omega)) (fun o V' hq => ?_)
            obtain ⟨G833, A834, ln2_835, fk2_836, rfl, rfl, hW837, hF838, e839, e840, q841⟩ := hq
            have hF842 := Fr_tr hF805 hF838 (Fr_sub (by decide)) (Fr_sub (by decide))
            have hP843 := Pf_f hP806 hF838 (by decide)
            have bln2_835 : (0 : Int) ≤ ln2_835 ∧ ln2_835 ≤ 3000 := e839 ▸ hW837.1 9
            have bfk2_836 : (0 : Int) ≤ fk2_836 ∧ fk2_836 ≤ 6 := e840 ▸ hW837.1 16
            refine .inl ⟨rfl, ?_⟩
            rcases q841 with ⟨a844, a845, a846, a847, a848⟩ | ⟨a849, a850⟩
            · have _q : True := trivial
              refine jx_ld (pc' := 56) (l' := L538) (st' := [.int (i32 (nd))]) rfl (jl_iloadn gL538_2) ?_
              refine jx_rt (v := some (.int (i32 (nd)))) rfl rfl rfl rfl rfl rfl ?_
              exact ⟨_, _, _, at2_794, fk2_836, nd2_527, ln2_835, rfl, rfl, hW837, hF842, hP843, by omega, ((hF838.1 10 rfl).trans (e799)), (e840), ((hF838.1 31 rfl).trans ((hF798.1 31 rfl).trans ((hF675.1 31 rfl).trans ((hF544.1 31 rfl).trans (e531))))), (e839), by omega, by omega, by omega, by omega, by omega, by first | exact Or.inl (⟨by omega, by omega, by omega⟩) | exact Or.inr ((⟨by omega, by omega, by omega, by omega, by omega⟩))⟩
            · have _q : True := trivial
              refine jx_ld (pc' := 56) (l' := L538) (st' := [.int (i32 (nd))]) rfl (jl_iloadn gL538_2) ?_
              refine jx_rt (v := some (.int (i32 (nd)))) rfl rfl rfl rfl rfl rfl ?_
              exact ⟨_, _, _, at2_794, fk2_836, nd2_527, ln2_835, rfl, rfl, hW837, hF842, hP843, by omega, ((hF838.1 10 rfl).trans (e799)), (e840), ((hF838.1 31 rfl).trans ((hF798.1 31 rfl).trans ((hF675.1 31 rfl).trans ((hF544.1 31 rfl).trans (e531))))), (e839), by omega, by omega, by omega, by omega, by omega, by first | exact Or.inl (⟨by omega, by omega, by omega⟩) | exact Or.inr ((⟨by omega, by omega, by omega, by omega, by omega⟩))⟩
        · have _q : True := trivial
          refine jx_vr (pc' := 51) (as := [.int (i32 (0))]) (st := []) rfl rfl rfl rfl ⟨rfl, rfl, Nat.le_of_ble_eq_true rfl⟩ rfl rfl (c_need (dd := d) (hd := by omega) (hW := hW674) (g := 0) (ln := ln) (e_ln := show G669 9 = ln from ((hF675.1 9 rfl).trans ((hF544.1 9 rfl).trans ((hF529.1 9 rfl).trans (e_ln))))) (le := le) (e_le := show A670 4 (ln).toNat = le from (congrFun ((hF675.2 4 rfl).trans ((hF544.2 4 rfl).trans (hF529.2 4 rfl))) _).trans (e_le)) (at0 := at2_671) (e_at0 := show G669 10 = at2_671 from (e676)) (fk := fk2_673) (e_fk := show G669 16 = fk2_673 from (e678)) (tk0 := tk2_672) (e_tk0 := show G669 11 = tk2_672 from (e677))  (h_g := ⟨(by decide), (by decide)⟩)  (p_0 := by omega)) (fun o V' hq => ?_)
          obtain ⟨G851, A852, at2_853, tk2_854, fk2_855, rfl, rfl, hW856, hF857, e858, e859, e860, p861, p862, q863⟩ := hq
          have hF864 := Fr_tr hF682 hF857 (Fr_sub (by decide)) (Fr_sub (by decide))
          have hP865 := Pf_f hP683 hF857 (by decide)
          have bat2_853 : (0 : Int) ≤ at2_853 ∧ at2_853 ≤ 3002 := e858 ▸ hW856.1 10
          have ztk2_854 := tz_b tk2_854
          have btk2_854 : (0 : Int) ≤ tk2_854 ∧ tk2_854 ≤ 5 := e859 ▸ hW856.1 11
          have bfk2_855 : (0 : Int) ≤ fk2_855 ∧ fk2_855 ≤ 6 := e860 ▸ hW856.1 16
          refine .inl ⟨rfl, ?_⟩
          rcases q863 with ⟨a866, a867, a868, a869⟩ | ⟨a870, a871, a872, a873⟩
          · have _q : True := trivial
            refine jx_ld (pc' := 52) (l' := L538) (st' := [.ref 66]) rfl (jl_aloadn gL538_0) ?_
            refine jx_vr (pc' := 55) (as := []) (st := []) rfl rfl rfl rfl ⟨rfl, rfl, Nat.le_of_ble_eq_true rfl⟩ rfl rfl (c_endLine (dd := d) (hd := by omega) (hW := hW856)  (ln := ln) (e_ln := show G851 9 = ln from ((hF857.1 9 rfl).trans ((hF675.1 9 rfl).trans ((hF544.1 9 rfl).trans ((hF529.1 9 rfl).trans (e_ln)))))) (li := li) (e_li := show G851 3 = li from ((hF857.1 3 rfl).trans ((hF675.1 3 rfl).trans ((hF544.1 3 rfl).trans ((hF529.1 3 rfl).trans (e_li)))))) (fk := fk2_855) (e_fk := show G851 16 = fk2_855 from (e860)) (tk0 := tk2_854) (e_tk0 := show G851 11 = tk2_854 from (e859))    (p_0 := by omega)) (fun o V' hq => ?_)
            obtain ⟨G874, A875, ln2_876, fk2_877, rfl, rfl, hW878, hF879, e880, e881, q882⟩ := hq
            have hF883 := Fr_tr hF864 hF879 (Fr_sub (by decide)) (Fr_sub (by decide))
            have hP884 := Pf_f hP865 hF879 (by decide)
            have bln2_876 : (0 : Int) ≤ ln2_876 ∧ ln2_876 ≤ 3000 := e880 ▸ hW878.1 9
            have bfk2_877 : (0 : Int) ≤ fk2_877 ∧ fk2_877 ≤ 6 := e881 ▸ hW878.1 16
            refine .inl ⟨rfl, ?_⟩
            rcases q882 with ⟨a885, a886, a887, a888, a889⟩ | ⟨a890, a891⟩
            · have _q : True := trivial
              exfalso
              omega
            · have _q : True := trivial
              refine jx_ld (pc' := 56) (l' := L538) (st' := [.int (i32 (nd))]) rfl (jl_iloadn gL538_2) ?_
              refine jx_rt (v := some (.int (i32 (nd)))) rfl rfl rfl rfl rfl rfl ?_
              exact ⟨_, _, _, at2_853, fk2_877, nd2_527, ln2_876, rfl, rfl, hW878, hF883, hP884, by omega, ((hF879.1 10 rfl).trans (e858)), (e881), ((hF879.1 31 rfl).trans ((hF857.1 31 rfl).trans ((hF675.1 31 rfl).trans ((hF544.1 31 rfl).trans (e531))))), (e880), by omega, by omega, by omega, by omega, by omega, by first | exact Or.inl (⟨by omega, by omega, by omega⟩) | exact Or.inr ((⟨by omega, by omega, by omega, by omega, by omega⟩))⟩
          · have _q : True := trivial
            exfalso
            omega
