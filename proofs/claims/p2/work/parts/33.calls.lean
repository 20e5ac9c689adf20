set_option maxRecDepth 20000 in
set_option maxHeartbeats 4000000 in
theorem c_addTo {X : jX} {dd : Nat} {c0 c1 : jC} {G : Nat → Int} {A : Nat → Nat → Int} {T : jH} {n last one : Int} (hd : 1 ≤ dd) (hW : Wk G A) (h_n : (-2147483648 : Int) ≤ n ∧ n ≤ 2147483647) (h_last : (-2147483648 : Int) ≤ last ∧ last ≤ 2147483647) (h_one : (-2147483648 : Int) ≤ one ∧ one ≤ 2147483647) (p_0 : 0 ≤ n ∧ n ≤ 6998) (p_1 : 0 ≤ last ∧ last ≤ 6998) : wk X dd 300 [.ref 66, .int (i32 n), .int (i32 last), .int (i32 one)] (rV c0 c1 G A T) (fun o V' => ∃ (G' : Nat → Int) (A' : Nat → Nat → Int), V' = rV c0 c1 G' A' T ∧ o = .inl none ∧ Wk G' A' ∧ Fr [] [21, 22] G A G' A' ∧ True) := by
  obtain ⟨d, rfl⟩ : ∃ d, dd = d + 1 := ⟨dd - 1, by omega⟩
  refine wk_of (e := jm300) rfl (Nat.le_of_ble_eq_true rfl) ?_
  show wj X d jm300 (0, [(0, .ref 66), (1, .int (i32 (n))), (2, .int (i32 (last))), (3, .int (i32 (one)))], [], rV c0 c1 G A T) _
  have hF0 : Fr [] [21, 22] G A G A := Fr_rf
  refine jx_ld (pc' := 1) (l' := [(0, .ref 66), (1, .int (i32 (n))), (2, .int (i32 (last))), (3, .int (i32 (one)))]) (st' := [.int (i32 (last))]) rfl (jl_iloadn rfl) ?_
  refine jx_if_ne (pc' := 4) (tg := 14) rfl rfl rfl (by omega) (by omega) (fun h1 => ?_) (fun h1 => ?_)
  · have _q := h1
    refine jx_ld (pc' := 15) (l' := [(0, .ref 66), (1, .int (i32 (n))), (2, .int (i32 (last))), (3, .int (i32 (one)))]) (st' := [.ref 66]) rfl (jl_aloadn rfl) ?_
    refine jr_get (pc' := 18) (i := 39) (v := .ref 89) rfl rfl (by decide) rfl rfl ?_
    refine jx_ld (pc' := 19) (l' := [(0, .ref 66), (1, .int (i32 (n))), (2, .int (i32 (last))), (3, .int (i32 (one)))]) (st' := [.int (i32 (last)), .ref 89]) rfl (jl_iloadn rfl) ?_
    refine jx_ld (pc' := 20) (l' := [(0, .ref 66), (1, .int (i32 (n))), (2, .int (i32 (last))), (3, .int (i32 (one)))]) (st' := [.int (i32 (one)), .int (i32 (last)), .ref 89]) rfl (jl_iloadn rfl) ?_
    refine jr_st (pc' := 21) (i := 22) (m := 7000) (z := last) (y := one) rfl (by decide) rfl (by decide) (by omega) (by omega) rfl ?_
    have hW3 : Wk G (uA A 22 (last).toNat (one)) := Wk_a hW (show (-2147483648 : Int) ≤ one by omega) (show one ≤ (2147483647 : Int) by omega)
    have hF4 := Fr_a (z := one) (k := 22) (n := (last).toNat) hF0 (by decide)
    obtain ⟨A2, eA2⟩ : ∃ q, q = uA A 22 (last).toNat (one) := ⟨_, rfl⟩
    rw [← eA2]
    rw [← eA2] at hW3 hF4
    have q5 : A2 22 (last).toNat = one := by rw [eA2]; exact uA_eq
    refine jx_rt (v := none) rfl rfl rfl rfl rfl rfl ?_
    exact ⟨_, _, rfl, rfl, hW3, hF4, trivial⟩
  · have _q := h1
    refine jx_ld (pc' := 5) (l' := [(0, .ref 66), (1, .int (i32 (n))), (2, .int (i32 (last))), (3, .int (i32 (one)))]) (st' := [.ref 66]) rfl (jl_aloadn rfl) ?_
    refine jr_get (pc' := 8) (i := 38) (v := .ref 88) rfl rfl (by decide) rfl rfl ?_
    refine jx_ld (pc' := 9) (l' := [(0, .ref 66), (1, .int (i32 (n))), (2, .int (i32 (last))), (3, .int (i32 (one)))]) (st' := [.int (i32 (n)), .ref 88]) rfl (jl_iloadn rfl) ?_
    refine jx_ld (pc' := 10) (l' := [(0, .ref 66), (1, .int (i32 (n))), (2, .int (i32 (last))), (3, .int (i32 (one)))]) (st' := [.int (i32 (one)), .int (i32 (n)), .ref 88]) rfl (jl_iloadn rfl) ?_
    refine jr_st (pc' := 11) (i := 21) (m := 7000) (z := n) (y := one) rfl (by decide) rfl (by decide) (by omega) (by omega) rfl ?_
    have hW7 : Wk G (uA A 21 (n).toNat (one)) := Wk_a hW (show (-2147483648 : Int) ≤ one by omega) (show one ≤ (2147483647 : Int) by omega)
    have hF8 := Fr_a (z := one) (k := 21) (n := (n).toNat) hF0 (by decide)
    obtain ⟨A6, eA6⟩ : ∃ q, q = uA A 21 (n).toNat (one) := ⟨_, rfl⟩
    rw [← eA6]
    rw [← eA6] at hW7 hF8
    have q9 : A6 21 (n).toNat = one := by rw [eA6]; exact uA_eq
    refine jx_go (tg := 21) rfl rfl ?_
    refine jx_rt (v := none) rfl rfl rfl rfl rfl rfl ?_
    exact ⟨_, _, rfl, rfl, hW7, hF8, trivial⟩
set_option maxRecDepth 20000 in
set_option maxHeartbeats 4000000 in
theorem c_readArgument {X : jX} {dd : Nat} {c0 c1 : jC} {G : Nat → Int} {A : Nat → Nat → Int} {T : jH} {pa : Int} {ln le at0 fk op0 nd tk0 : Int} (hd : 70 ≤ dd) (hW : Wk G A) (e_ln : G 9 = ln) (e_le : A 4 (ln).toNat = le) (e_at0 : G 10 = at0) (e_fk : G 16 = fk) (e_op0 : G 15 = op0) (e_nd : G 31 = nd) (e_tk0 : G 11 = tk0) (h_pa : (-2147483648 : Int) ≤ pa ∧ pa ≤ 2147483647) (p_0 : 0 ≤ op0) (p_1 : op0 ≤ 9) (p_2 : op0 ≤ 8 ∨ 1 ≤ fk) (p_3 : nd ≤ 2 * at0 - tz tk0 + 47) (p_4 : at0 ≤ le) (p_5 : fk = 0) (p_6 : op0 ≤ 8) (p_7 : 0 ≤ pa ∧ pa ≤ 208) : wk X dd 306 [.ref 66, .int (i32 pa)] (rV c0 c1 G A T) (fun o V' => ∃ (G' : Nat → Int) (A' : Nat → Nat → Int) (r : Int) (at2 : Int) (fk2 : Int) (op2 : Int) (nd2 : Int) (tk2 : Int), V' = rV c0 c1 G' A' T ∧ o = .inl (some (.int (i32 r))) ∧ Wk G' A' ∧ Fr [10, 11, 12, 13, 14, 15, 16, 17, 18, 31] [15, 16, 17, 18, 19, 20, 21, 22, 24, 28] G A G' A' ∧ ((-2147483648 : Int) ≤ r ∧ r ≤ 2147483647) ∧ G' 10 = at2 ∧ G' 16 = fk2 ∧ G' 15 = op2 ∧ G' 31 = nd2 ∧ G' 11 = tk2 ∧ (at0 ≤ at2) ∧ (at2 ≤ le) ∧ (nd ≤ nd2) ∧ (op2 = op0) ∧ (0 ≤ r) ∧ (r ≤ nd2) ∧ (((fk = 0) ∧ (1 ≤ fk2) ∧ (nd2 - nd ≤ (2 * at2 - tz tk2) - (2 * at0 - tz tk0) + 3)) ∨ ((fk = 0) ∧ (fk2 = 0) ∧ (nd2 - nd ≤ (2 * at2 - tz tk2) - (2 * at0 - tz tk0) + 1)))) := by
  obtain ⟨d, rfl⟩ : ∃ d, dd = d + 1 := ⟨dd - 1, by omega⟩
  refine wk_of (e := jm306) rfl (Nat.le_of_ble_eq_true rfl) ?_
  show wj X d jm306 (0, [(0, .ref 66), (1, .int (i32 (pa)))], [], rV c0 c1 G A T) _
  have hF0 : Fr [10, 11, 12, 13, 14, 15, 16, 17, 18, 31] [15, 16, 17, 18, 19, 20, 21, 22, 24, 28] G A G A := Fr_rf
  have b_ln : (0 : Int) ≤ ln ∧ ln ≤ 3000 := e_ln ▸ hW.1 9
  have b_le : (0 : Int) ≤ le ∧ le ≤ 3000 := e_le ▸ hW.2 4 _
  have b_at0 : (0 : Int) ≤ at0 ∧ at0 ≤ 3002 := e_at0 ▸ hW.1 10
  have b_fk : (0 : Int) ≤ fk ∧ fk ≤ 6 := e_fk ▸ hW.1 16
  have b_op0 : (-2147483648 : Int) ≤ op0 ∧ op0 ≤ 2147483647 := e_op0 ▸ hW.1 15
  have b_nd : (0 : Int) ≤ nd ∧ nd ≤ 6999 := e_nd ▸ hW.1 31
  have z_tk0 := tz_f tk0
  have b_tk0 : (0 : Int) ≤ tk0 ∧ tk0 ≤ 5 := e_tk0 ▸ hW.1 11
  refine jx_ld (pc' := 1) (l' := [(0, .ref 66), (1, .int (i32 (pa)))]) (st' := [.ref 66]) rfl (jl_aloadn rfl) ?_
  refine jr_get (pc' := 4) (i := 21) (v := .ref 74) rfl rfl (by decide) rfl rfl ?_
  refine jx_ld (pc' := 5) (l' := [(0, .ref 66), (1, .int (i32 (pa)))]) (st' := [.int (i32 (pa)), .ref 74]) rfl (jl_iloadn rfl) ?_
  have b1 : (0 : Int) ≤ A 7 (pa).toNat ∧ A 7 (pa).toNat ≤ 14 := hW.2 7 _
  refine jr_ldv (pc' := 6) (i := 7) (m := 260) (z := pa) (y := A 7 (pa).toNat) rfl (by decide) rfl (by decide) (by omega) (by omega) rfl (show A 7 (pa).toNat = A 7 (pa).toNat from rfl) ?_
  refine jx_ld (pc' := 7) (l' := jSto1 [(0, .ref 66), (1, .int (i32 (pa)))] 2 (.int (i32 (A 7 (pa).toNat)))) (st' := []) rfl rfl ?_
  obtain ⟨L2, eL2⟩ : ∃ q, q = jSto1 [(0, .ref 66), (1, .int (i32 (pa)))] 2 (.int (i32 (A 7 (pa).toNat))) := ⟨_, rfl⟩
  rw [← eL2]
  have gL2_0 : jGet L2 0 = some (.ref 66) := eL2 ▸ jg_ne (by decide) (rfl : jGet [(0, .ref 66), (1, .int (i32 (pa)))] 0 = some (.ref 66)) rfl
  have gL2_1 : jGet L2 1 = some (.int (i32 (pa))) := eL2 ▸ jg_ne (by decide) (rfl : jGet [(0, .ref 66), (1, .int (i32 (pa)))] 1 = some (.int (i32 (pa)))) rfl
  have gL2_2 : jGet L2 2 = some (.int (i32 (A 7 (pa).toNat))) := eL2 ▸ jg_eq
  refine jx_ar (pc' := 8) (st' := [.int (i32 (0))]) rfl rfl rfl rfl ?_
  refine jx_ld (pc' := 9) (l' := jSto1 L2 3 (.int (i32 (0)))) (st' := []) rfl rfl ?_
  obtain ⟨L3, eL3⟩ : ∃ q, q = jSto1 L2 3 (.int (i32 (0))) := ⟨_, rfl⟩
  rw [← eL3]
  have gL3_0 : jGet L3 0 = some (.ref 66) := eL3 ▸ jg_ne (by decide) gL2_0 rfl
  have gL3_1 : jGet L3 1 = some (.int (i32 (pa))) := eL3 ▸ jg_ne (by decide) gL2_1 rfl
  have gL3_2 : jGet L3 2 = some (.int (i32 (A 7 (pa).toNat))) := eL3 ▸ jg_ne (by decide) gL2_2 rfl
  have gL3_3 : jGet L3 3 = some (.int (i32 (0))) := eL3 ▸ jg_eq
  refine jx_ld (pc' := 10) (l' := L3) (st' := [.ref 66]) rfl (jl_aloadn gL3_0) ?_
  refine jx_ar (pc' := 12) (st' := [.int (i32 (41)), .ref 66]) rfl rfl rfl rfl ?_
  have b4 : (-2147483648 : Int) ≤ G 13 ∧ G 13 ≤ 2147483647 := hW.1 13
  refine jx_vr (pc' := 15) (as := [.int (i32 (41))]) (st := []) rfl rfl rfl rfl ⟨rfl, rfl, Nat.le_of_ble_eq_true rfl⟩ rfl rfl (c_is (dd := d) (hd := by omega) (hW := hW) (k := 41) (tk := tk0) (e_tk := show G 11 = tk0 from (e_tk0)) (tn := G 13) (e_tn := show G 13 = G 13 from rfl)  (h_k := by omega)  ) (fun o V' hq => ?_)
  obtain ⟨r5, rfl, rfl, b6, q7⟩ := hq
  refine .inr ⟨_, rfl, ?_⟩
  rcases q7 with ⟨rfl, a8, a9, a10⟩ | rfl
  · have _q : True := trivial
    refine jx_if_eq (pc' := 18) (tg := 30) rfl rfl rfl (by omega) (by omega) (fun h11 => ?_) (fun h11 => ?_)
    · have _q := h11
      exact absurd h11 (by omega)
    · have _q := h11
      refine jx_ld (pc' := 19) (l' := L3) (st' := [.ref 66]) rfl (jl_aloadn gL3_0) ?_
      refine jx_ar (pc' := 20) (st' := [.int (i32 (4)), .ref 66]) rfl rfl rfl rfl ?_
      refine jx_ld (pc' := 21) (l' := L3) (st' := [.ref 66, .int (i32 (4)), .ref 66]) rfl (jl_aloadn gL3_0) ?_
      have b12 : (-3000 : Int) ≤ G 12 ∧ G 12 ≤ 3002 := hW.1 12
      refine jr_get (pc' := 24) (i := 12) (v := .int (i32 (G 12))) rfl rfl (by decide) rfl rfl ?_
      refine jx_vr (pc' := 27) (as := [.int (i32 (4)), .int (i32 (G 12))]) (st := []) rfl rfl rfl rfl ⟨rfl, rfl, Nat.le_of_ble_eq_true rfl⟩ rfl rfl (c_fail (dd := d) (hd := by omega) (hW := hW) (kind := 4) (place := G 12) (fk := fk) (e_fk := show G 16 = fk from (e_fk))  (h_kind := by omega) (h_place := by omega)  (p_0 := by omega) (p_1 := by omega)) (fun o V' hq => ?_)
      obtain ⟨G13, A14, fk2_15, rfl, rfl, hW16, hF17, e18, p19, -⟩ := hq
      have hF21 := Fr_tr hF0 hF17 (Fr_sub (by decide)) (Fr_sub (by decide))
      have bfk2_15 : (0 : Int) ≤ fk2_15 ∧ fk2_15 ≤ 6 := e18 ▸ hW16.1 16
      refine .inl ⟨rfl, ?_⟩
      refine jx_go (tg := 172) rfl rfl ?_
      refine jx_ld (pc' := 173) (l' := L3) (st' := [.ref 66]) rfl (jl_aloadn gL3_0) ?_
      refine jx_ar (pc' := 175) (st' := [.int (i32 (7)), .ref 66]) rfl rfl rfl rfl ?_
      refine jx_ld (pc' := 176) (l' := L3) (st' := [.int (i32 (0)), .int (i32 (7)), .ref 66]) rfl (jl_iloadn gL3_3) ?_
      refine jx_ld (pc' := 177) (l' := L3) (st' := [.int (i32 (pa)), .int (i32 (0)), .int (i32 (7)), .ref 66]) rfl (jl_iloadn gL3_1) ?_
      refine jx_ar (pc' := 178) (st' := [.int (i32 (0)), .int (i32 (pa)), .int (i32 (0)), .int (i32 (7)), .ref 66]) rfl rfl rfl rfl ?_
      refine jx_ar (pc' := 179) (st' := [.int (i32 (0)), .int (i32 (0)), .int (i32 (pa)), .int (i32 (0)), .int (i32 (7)), .ref 66]) rfl rfl rfl rfl ?_
      refine jx_vr (pc' := 182) (as := [.int (i32 (7)), .int (i32 (0)), .int (i32 (pa)), .int (i32 (0)), .int (i32 (0))]) (st := []) rfl rfl rfl rfl ⟨rfl, rfl, Nat.le_of_ble_eq_true rfl⟩ rfl rfl (c_node (dd := d) (hd := by omega) (hW := hW16) (kind := 7) (a := 0) (b := pa) (c := 0) (e := 0) (nd := nd) (e_nd := show G13 31 = nd from ((hF17.1 31 rfl).trans (e_nd)))  (h_kind := by omega) (h_a := by omega) (h_b := by omega) (h_c := by omega) (h_e := by omega)  (p_0 := by omega) (p_1 := by omega)) (fun o V' hq => ?_)
      obtain ⟨G22, A23, r24, nd2_25, rfl, rfl, hW26, hF27, b28, e29, p30, p31, -⟩ := hq
      have hF33 := Fr_tr hF21 hF27 (Fr_sub (by decide)) (Fr_sub (by decide))
      have bnd2_25 : (0 : Int) ≤ nd2_25 ∧ nd2_25 ≤ 6999 := e29 ▸ hW26.1 31
      refine .inr ⟨_, rfl, ?_⟩
      refine jx_rt (v := some (.int (i32 (r24)))) rfl rfl rfl rfl rfl rfl ?_
      have z34 := tz_f (tk0)
      exact ⟨_, _, _, at0, fk2_15, op0, nd2_25, tk0, rfl, rfl, hW26, hF33, by omega, ((hF27.1 10 rfl).trans ((hF17.1 10 rfl).trans (e_at0))), ((hF27.1 16 rfl).trans (e18)), ((hF27.1 15 rfl).trans ((hF17.1 15 rfl).trans (e_op0))), (e29), ((hF27.1 11 rfl).trans ((hF17.1 11 rfl).trans (e_tk0))), by omega, by omega, by omega, by omega, by omega, by omega, by first | exact Or.inl (⟨by omega, by omega, by omega⟩) | exact Or.inr ((⟨by omega, by omega, by omega⟩))⟩
  · have _q : True := trivial
    refine jx_if_eq (pc' := 18) (tg := 30) rfl rfl rfl (by omega) (by omega) (fun h35 => ?_) (fun h35 => ?_)
    · have _q := h35
      refine jx_ld (pc' := 31) (l' := L3) (st' := [.int (i32 (A 7 (pa).toNat))]) rfl (jl_iloadn gL3_2) ?_
      refine jx_ar (pc' := 32) (st' := [.int (i32 (5)), .int (i32 (A 7 (pa).toNat))]) rfl rfl rfl rfl ?_
      refine jx_icmp_ne (pc' := 35) (tg := 43) rfl rfl rfl (by omega) (by omega) (by omega) (by omega) (fun h36 => ?_) (fun h36 => ?_)
      · have _q := h36
        refine jx_ld (pc' := 44) (l' := L3) (st' := [.ref 66]) rfl (jl_aloadn gL3_0) ?_
        have z37 := tz_f (tk0)
        refine jr_get (pc' := 47) (i := 11) (v := .int (i32 (tk0))) rfl rfl (by decide) (rFv_eq (by decide) (show G 11 = tk0 from (e_tk0))) rfl ?_
        refine jx_ar (pc' := 48) (st' := [.int (i32 (1)), .int (i32 (tk0))]) rfl rfl rfl rfl ?_
        refine jx_icmp_eq (pc' := 51) (tg := 63) rfl rfl rfl (by omega) (by omega) (by omega) (by omega) (fun h38 => ?_) (fun h38 => ?_)
        · have _q := h38
          refine jx_ld (pc' := 64) (l' := L3) (st' := [.ref 66]) rfl (jl_aloadn gL3_0) ?_
          have b39 : (-3000 : Int) ≤ G 12 ∧ G 12 ≤ 3002 := hW.1 12
          refine jr_get (pc' := 67) (i := 12) (v := .int (i32 (G 12))) rfl rfl (by decide) rfl rfl ?_
          refine jx_ld (pc' := 69) (l' := jSto1 L3 4 (.int (i32 (G 12)))) (st' := []) rfl rfl ?_
          obtain ⟨L40, eL40⟩ : ∃ q, q = jSto1 L3 4 (.int (i32 (G 12))) := ⟨_, rfl⟩
          rw [← eL40]
          have gL40_0 : jGet L40 0 = some (.ref 66) := eL40 ▸ jg_ne (by decide) gL3_0 rfl
          have gL40_1 : jGet L40 1 = some (.int (i32 (pa))) := eL40 ▸ jg_ne (by decide) gL3_1 rfl
          have gL40_2 : jGet L40 2 = some (.int (i32 (A 7 (pa).toNat))) := eL40 ▸ jg_ne (by decide) gL3_2 rfl
          have gL40_3 : jGet L40 3 = some (.int (i32 (0))) := eL40 ▸ jg_ne (by decide) gL3_3 rfl
          have gL40_4 : jGet L40 4 = some (.int (i32 (G 12))) := eL40 ▸ jg_eq
          refine jx_ld (pc' := 70) (l' := L40) (st' := [.ref 66]) rfl (jl_aloadn gL40_0) ?_
          refine jx_vr (pc' := 73) (as := []) (st := []) rfl rfl rfl rfl ⟨rfl, rfl, Nat.le_of_ble_eq_true rfl⟩ rfl rfl (c_lookUp (dd := d) (hd := by omega) (hW := hW)  (fk := fk) (e_fk := show G 16 = fk from (e_fk))    ) (fun o V' hq => ?_)
          obtain ⟨G41, A42, r43, fk2_44, rfl, rfl, hW45, hF46, b47, e48, q49⟩ := hq
          have hF50 := Fr_tr hF0 hF46 (Fr_sub (by decide)) (Fr_sub (by decide))
          have bfk2_44 : (0 : Int) ≤ fk2_44 ∧ fk2_44 ≤ 6 := e48 ▸ hW45.1 16
          refine .inr ⟨_, rfl, ?_⟩
          rcases q49 with ⟨a51, a52⟩ | ⟨a53, a54, a55⟩
          · have _q : True := trivial
            refine jx_ld (pc' := 75) (l' := jSto1 L40 5 (.int (i32 (r43)))) (st' := []) rfl rfl ?_
            obtain ⟨L56, eL56⟩ : ∃ q, q = jSto1 L40 5 (.int (i32 (r43))) := ⟨_, rfl⟩
            rw [← eL56]
            have gL56_0 : jGet L56 0 = some (.ref 66) := eL56 ▸ jg_ne (by decide) gL40_0 rfl
            have gL56_1 : jGet L56 1 = some (.int (i32 (pa))) := eL56 ▸ jg_ne (by decide) gL40_1 rfl
            have gL56_2 : jGet L56 2 = some (.int (i32 (A 7 (pa).toNat))) := eL56 ▸ jg_ne (by decide) gL40_2 rfl
            have gL56_3 : jGet L56 3 = some (.int (i32 (0))) := eL56 ▸ jg_ne (by decide) gL40_3 rfl
            have gL56_4 : jGet L56 4 = some (.int (i32 (G 12))) := eL56 ▸ jg_ne (by decide) gL40_4 rfl
            have gL56_5 : jGet L56 5 = some (.int (i32 (r43))) := eL56 ▸ jg_eq
            refine jx_ld (pc' := 76) (l' := L56) (st' := [.ref 66]) rfl (jl_aloadn gL56_0) ?_
            refine jx_vr (pc' := 79) (as := []) (st := []) rfl rfl rfl rfl ⟨rfl, rfl, Nat.le_of_ble_eq_true rfl⟩ rfl rfl (c_bad (dd := d) (hd := by omega) (hW := hW45)  (fk := fk2_44) (e_fk := show G41 16 = fk2_44 from (e48))    ) (fun o V' hq => ?_)
            obtain ⟨r57, rfl, rfl, b58, q59⟩ := hq
            refine .inr ⟨_, rfl, ?_⟩
            rcases q59 with ⟨rfl, a60⟩ | ⟨rfl, a61⟩
            · have _q : True := trivial
              refine jx_if_eq (pc' := 82) (tg := 84) rfl rfl rfl (by omega) (by omega) (fun h62 => ?_) (fun h62 => ?_)
              · have _q := h62
                exact absurd h62 (by omega)
              · have _q := h62
                refine jx_ar (pc' := 83) (st' := [.int (i32 (0))]) rfl rfl rfl rfl ?_
                refine jx_rt (v := some (.int (i32 (0)))) rfl rfl rfl rfl rfl rfl ?_
                have z63 := tz_f (tk0)
                exact ⟨_, _, _, at0, fk2_44, op0, nd, tk0, rfl, rfl, hW45, hF50, by omega, ((hF46.1 10 rfl).trans (e_at0)), (e48), ((hF46.1 15 rfl).trans (e_op0)), ((hF46.1 31 rfl).trans (e_nd)), ((hF46.1 11 rfl).trans (e_tk0)), by omega, by omega, by omega, by omega, by omega, by omega, by first | exact Or.inl (⟨by omega, by omega, by omega⟩) | exact Or.inr ((⟨by omega, by omega, by omega⟩))⟩
            · have _q : True := trivial
              exfalso
              omega
          · have _q : True := trivial
            refine jx_ld (pc' := 75) (l' := jSto1 L40 5 (.int (i32 (r43)))) (st' := []) rfl rfl ?_
            obtain ⟨L64, eL64⟩ : ∃ q, q = jSto1 L40 5 (.int (i32 (r43))) := ⟨_, rfl⟩
            rw [← eL64]
            have gL64_0 : jGet L64 0 = some (.ref 66) := eL64 ▸ jg_ne (by decide) gL40_0 rfl
            have gL64_1 : jGet L64 1 = some (.int (i32 (pa))) := eL64 ▸ jg_ne (by decide) gL40_1 rfl
            have gL64_2 : jGet L64 2 = some (.int (i32 (A 7 (pa).toNat))) := eL64 ▸ jg_ne (by decide) gL40_2 rfl
            have gL64_3 : jGet L64 3 = some (.int (i32 (0))) := eL64 ▸ jg_ne (by decide) gL40_3 rfl
            have gL64_4 : jGet L64 4 = some (.int (i32 (G 12))) := eL64 ▸ jg_ne (by decide) gL40_4 rfl
            have gL64_5 : jGet L64 5 = some (.int (i32 (r43))) := eL64 ▸ jg_eq
            refine jx_ld (pc' := 76) (l' := L64) (st' := [.ref 66]) rfl (jl_aloadn gL64_0) ?_
            refine jx_vr (pc' := 79) (as := []) (st := []) rfl rfl rfl rfl ⟨rfl, rfl, Nat.le_of_ble_eq_true rfl⟩ rfl rfl (c_bad (dd := d) (hd := by omega) (hW := hW45)  (fk := fk2_44) (e_fk := show G41 16 = fk2_44 from (e48))    ) (fun o V' hq => ?_)
            obtain ⟨r65, rfl, rfl, b66, q67⟩ := hq
            refine .inr ⟨_, rfl, ?_⟩
            rcases q67 with ⟨rfl, a68⟩ | ⟨rfl, a69⟩
            · have _q : True := trivial
              exfalso
              omega
            · have _q : True := trivial
              refine jx_if_eq (pc' := 82) (tg := 84) rfl rfl rfl (by omega) (by omega) (fun h70 => ?_) (fun h70 => ?_)
              · have _q := h70
                refine jx_ld (pc' := 85) (l' := L64) (st' := [.int (i32 (A 7 (pa).toNat))]) rfl (jl_iloadn gL64_2) ?_
                refine jx_ar (pc' := 87) (st' := [.int (i32 (7)), .int (i32 (A 7 (pa).toNat))]) rfl rfl rfl rfl ?_
                refine jx_icmp_ne (pc' := 90) (tg := 128) rfl rfl rfl (by omega) (by omega) (by omega) (by omega) (fun h71 => ?_) (fun h71 => ?_)
                · have _q := h71
                  refine jx_ld (pc' := 129) (l' := L64) (st' := [.ref 66]) rfl (jl_aloadn gL64_0) ?_
                  refine jx_vr (pc' := 132) (as := []) (st := []) rfl rfl rfl rfl ⟨rfl, rfl, Nat.le_of_ble_eq_true rfl⟩ rfl rfl (c_next (dd := d) (hd := by omega) (hW := hW45)  (ln := ln) (e_ln := show G41 9 = ln from ((hF46.1 9 rfl).trans (e_ln))) (le := le) (e_le := show A42 4 (ln).toNat = le from (congrFun (hF46.2 4 rfl) _).trans (e_le)) (at0 := at0) (e_at0 := show G41 10 = at0 from ((hF46.1 10 rfl).trans (e_at0)))    (p_0 := by omega)) (fun o V' hq => ?_)
                  obtain ⟨G72, A73, at2_74, tk2_75, rfl, rfl, hW76, hF77, e78, e79, p80, p81, p82, -⟩ := hq
                  have hF84 := Fr_tr hF50 hF77 (Fr_sub (by decide)) (Fr_sub (by decide))
                  have bat2_74 : (0 : Int) ≤ at2_74 ∧ at2_74 ≤ 3002 := e78 ▸ hW76.1 10
                  have ztk2_75 := tz_b tk2_75
                  have btk2_75 : (0 : Int) ≤ tk2_75 ∧ tk2_75 ≤ 5 := e79 ▸ hW76.1 11
                  refine .inl ⟨rfl, ?_⟩
                  refine jx_ld (pc' := 133) (l' := L64) (st' := [.int (i32 (A 7 (pa).toNat))]) rfl (jl_iloadn gL64_2) ?_
                  refine jx_ar (pc' := 135) (st' := [.int (i32 (7)), .int (i32 (A 7 (pa).toNat))]) rfl rfl rfl rfl ?_
                  refine jx_icmp_ne (pc' := 138) (tg := 152) rfl rfl rfl (by omega) (by omega) (by omega) (by omega) (fun h85 => ?_) (fun h85 => ?_)
                  · have _q := h85
                    refine jx_ld (pc' := 153) (l' := L64) (st' := [.ref 66]) rfl (jl_aloadn gL64_0) ?_
                    refine jx_ld (pc' := 155) (l' := L64) (st' := [.int (i32 (r43)), .ref 66]) rfl (jl_iload gL64_5) ?_
                    refine jx_ld (pc' := 157) (l' := L64) (st' := [.int (i32 (G 12)), .int (i32 (r43)), .ref 66]) rfl (jl_iload gL64_4) ?_
                    refine jx_ld (pc' := 158) (l' := L64) (st' := [.int (i32 (A 7 (pa).toNat)), .int (i32 (G 12)), .int (i32 (r43)), .ref 66]) rfl (jl_iloadn gL64_2) ?_
                    refine jx_ar (pc' := 160) (st' := [.int (i32 (8)), .int (i32 (A 7 (pa).toNat)), .int (i32 (G 12)), .int (i32 (r43)), .ref 66]) rfl rfl rfl rfl ?_
                    refine jx_icmp_ne (pc' := 163) (tg := 167) rfl rfl rfl (by omega) (by omega) (by omega) (by omega) (fun h86 => ?_) (fun h86 => ?_)
                    · have _q := h86
                      refine jx_ar (pc' := 168) (st' := [.int (i32 (0)), .int (i32 (G 12)), .int (i32 (r43)), .ref 66]) rfl rfl rfl rfl ?_
                      refine jx_vr (pc' := 171) (as := [.int (i32 (r43)), .int (i32 (G 12)), .int (i32 (0))]) (st := []) rfl rfl rfl rfl ⟨rfl, rfl, Nat.le_of_ble_eq_true rfl⟩ rfl rfl (c_readBehind (dd := d) (hd := by omega) (hW := hW76) (s := r43) (place := G 12) (ch := 0) (ln := ln) (e_ln := show G72 9 = ln from ((hF77.1 9 rfl).trans ((hF46.1 9 rfl).trans (e_ln)))) (le := le) (e_le := show A73 4 (ln).toNat = le from (congrFun ((hF77.2 4 rfl).trans (hF46.2 4 rfl)) _).trans (e_le)) (at0 := at2_74) (e_at0 := show G72 10 = at2_74 from (e78)) (fk := fk2_44) (e_fk := show G72 16 = fk2_44 from ((hF77.1 16 rfl).trans (e48))) (op0 := op0) (e_op0 := show G72 15 = op0 from ((hF77.1 15 rfl).trans ((hF46.1 15 rfl).trans (e_op0)))) (nd := nd) (e_nd := show G72 31 = nd from ((hF77.1 31 rfl).trans ((hF46.1 31 rfl).trans (e_nd)))) (tk0 := tk2_75) (e_tk0 := show G72 11 = tk2_75 from (e79))  (h_s := by omega) (h_place := by omega) (h_ch := by omega)  (p_0 := by omega) (p_1 := by omega) (p_2 := by omega) (p_3 := by omega) (p_4 := by omega) (p_5 := by omega) (p_6 := by omega) (p_7 := by omega) (p_8 := by omega)) (fun o V' hq => ?_)
                      obtain ⟨G87, A88, r89, at2_90, fk2_91, op2_92, nd2_93, tk2_94, rfl, rfl, hW95, hF96, b97, e98, e99, e100, e101, e102, p103, p104, p105, p106, p107, p108, q109⟩ := hq
                      have hF110 := Fr_tr hF84 hF96 (Fr_sub (by decide)) (Fr_sub (by decide))
                      have bat2_90 : (0 : Int) ≤ at2_90 ∧ at2_90 ≤ 3002 := e98 ▸ hW95.1 10
                      have bfk2_91 : (0 : Int) ≤ fk2_91 ∧ fk2_91 ≤ 6 := e99 ▸ hW95.1 16
                      have bop2_92 : (-2147483648 : Int) ≤ op2_92 ∧ op2_92 ≤ 2147483647 := e100 ▸ hW95.1 15
                      have bnd2_93 : (0 : Int) ≤ nd2_93 ∧ nd2_93 ≤ 6999 := e101 ▸ hW95.1 31
                      have ztk2_94 := tz_b tk2_94
                      have btk2_94 : (0 : Int) ≤ tk2_94 ∧ tk2_94 ≤ 5 := e102 ▸ hW95.1 11
                      refine .inr ⟨_, rfl, ?_⟩
                      rcases q109 with ⟨a111, a112, a113⟩ | ⟨a114, a115, a116⟩
                      · have _q : True := trivial
                        refine jx_ld (pc' := 172) (l' := jSto1 L64 3 (.int (i32 (r89)))) (st' := []) rfl rfl ?_
                        obtain ⟨L117, eL117⟩ : ∃ q, q = jSto1 L64 3 (.int (i32 (r89))) := ⟨_, rfl⟩
                        rw [← eL117]
                        have gL117_0 : jGet L117 0 = some (.ref 66) := eL117 ▸ jg_ne (by decide) gL64_0 rfl
                        have gL117_1 : jGet L117 1 = some (.int (i32 (pa))) := eL117 ▸ jg_ne (by decide) gL64_1 rfl
                        have gL117_2 : jGet L117 2 = some (.int (i32 (A 7 (pa).toNat))) := eL117 ▸ jg_ne (by decide) gL64_2 rfl
                        have gL117_4 : jGet L117 4 = some (.int (i32 (G 12))) := eL117 ▸ jg_ne (by decide) gL64_4 rfl
                        have gL117_5 : jGet L117 5 = some (.int (i32 (r43))) := eL117 ▸ jg_ne (by decide) gL64_5 rfl
                        have gL117_3 : jGet L117 3 = some (.int (i32 (r89))) := eL117 ▸ jg_eq
                        refine jx_ld (pc' := 173) (l' := L117) (st' := [.ref 66]) rfl (jl_aloadn gL117_0) ?_
                        refine jx_ar (pc' := 175) (st' := [.int (i32 (7)), .ref 66]) rfl rfl rfl rfl ?_
                        refine jx_ld (pc' := 176) (l' := L117) (st' := [.int (i32 (r89)), .int (i32 (7)), .ref 66]) rfl (jl_iloadn gL117_3) ?_
                        refine jx_ld (pc' := 177) (l' := L117) (st' := [.int (i32 (pa)), .int (i32 (r89)), .int (i32 (7)), .ref 66]) rfl (jl_iloadn gL117_1) ?_
                        refine jx_ar (pc' := 178) (st' := [.int (i32 (0)), .int (i32 (pa)), .int (i32 (r89)), .int (i32 (7)), .ref 66]) rfl rfl rfl rfl ?_
                        refine jx_ar (pc' := 179) (st' := [.int (i32 (0)), .int (i32 (0)), .int (i32 (pa)), .int (i32 (r89)), .int (i32 (7)), .ref 66]) rfl rfl rfl rfl ?_
                        refine jx_vr (pc' := 182) (as := [.int (i32 (7)), .int (i32 (r89)), .int (i32 (pa)), .int (i32 (0)), .int (i32 (0))]) (st := []) rfl rfl rfl rfl ⟨rfl, rfl, Nat.le_of_ble_eq_true rfl⟩ rfl rfl (c_node (dd := d) (hd := by omega) (hW := hW95) (kind := 7) (a := r89) (b := pa) (c := 0) (e := 0) (nd := nd2_93) (e_nd := show G87 31 = nd2_93 from (e101))  (h_kind := by omega) (h_a := by omega) (h_b := by omega) (h_c := by omega) (h_e := by omega)  (p_0 := by omega) (p_1 := by omega)) (fun o V' hq => ?_)
                        obtain ⟨G118, A119, r120, nd2_121, rfl, rfl, hW122, hF123, b124, e125, p126, p127, -⟩ := hq
                        have hF129 := Fr_tr hF110 hF123 (Fr_sub (by decide)) (Fr_sub (by decide))
                        have bnd2_121 : (0 : Int) ≤ nd2_121 ∧ nd2_121 ≤ 6999 := e125 ▸ hW122.1 31
                        refine .inr ⟨_, rfl, ?_⟩
                        refine jx_rt (v := some (.int (i32 (r120)))) rfl rfl rfl rfl rfl rfl ?_
                        have z130 := tz_f (tk2_94)
                        exact ⟨_, _, _, at2_90, fk2_91, op2_92, nd2_121, tk2_94, rfl, rfl, hW122, hF129, by omega, ((hF123.1 10 rfl).trans (e98)), ((hF123.1 16 rfl).trans (e99)), ((hF123.1 15 rfl).trans (e100)), (e125), ((hF123.1 11 rfl).trans (e102)), by omega, by omega, by omega, by omega, by omega, by omega, by first | exact Or.inl (⟨by omega, by omega, by omega⟩) | exact Or.inr ((⟨by omega, by omega, by omega⟩))⟩
                      · have _q : True := trivial
                        refine jx_ld (pc' := 172) (l' := jSto1 L64 3 (.int (i32 (r89)))) (st' := []) rfl rfl ?_
                        obtain ⟨L131, eL131⟩ : ∃ q, q = jSto1 L64 3 (.int (i32 (r89))) := ⟨_, rfl⟩
                        rw [← eL131]
                        have gL131_0 : jGet L131 0 = some (.ref 66) := eL131 ▸ jg_ne (by decide) gL64_0 rfl
                        have gL131_1 : jGet L131 1 = some (.int (i32 (pa))) := eL131 ▸ jg_ne (by decide) gL64_1 rfl
                        have gL131_2 : jGet L131 2 = some (.int (i32 (A 7 (pa).toNat))) := eL131 ▸ jg_ne (by decide) gL64_2 rfl
                        have gL131_4 : jGet L131 4 = some (.int (i32 (G 12))) := eL131 ▸ jg_ne (by decide) gL64_4 rfl
                        have gL131_5 : jGet L131 5 = some (.int (i32 (r43))) := eL131 ▸ jg_ne (by decide) gL64_5 rfl
                        have gL131_3 : jGet L131 3 = some (.int (i32 (r89))) := eL131 ▸ jg_eq
                        refine jx_ld (pc' := 173) (l' := L131) (st' := [.ref 66]) rfl (jl_aloadn gL131_0) ?_
                        refine jx_ar (pc' := 175) (st' := [.int (i32 (7)), .ref 66]) rfl rfl rfl rfl ?_
                        refine jx_ld (pc' := 176) (l' := L131) (st' := [.int (i32 (r89)), .int (i32 (7)), .ref 66]) rfl (jl_iloadn gL131_3) ?_
                        refine jx_ld (pc' := 177) (l' := L131) (st' := [.int (i32 (pa)), .int (i32 (r89)), .int (i32 (7)), .ref 66]) rfl (jl_iloadn gL131_1) ?_
                        refine jx_ar (pc' := 178) (st' := [.int (i32 (0)), .int (i32 (pa)), .int (i32 (r89)), .int (i32 (7)), .ref 66]) rfl rfl rfl rfl ?_
                        refine jx_ar (pc' := 179) (st' := [.int (i32 (0)), .int (i32 (0)), .int (i32 (pa)), .int (i32 (r89)), .int (i32 (7)), .ref 66]) rfl rfl rfl rfl ?_
                        refine jx_vr (pc' := 182) (as := [.int (i32 (7)), .int (i32 (r89)), .int (i32 (pa)), .int (i32 (0)), .int (i32 (0))]) (st := []) rfl rfl rfl rfl ⟨rfl, rfl, Nat.le_of_ble_eq_true rfl⟩ rfl rfl (c_node (dd := d) (hd := by omega) (hW := hW95) (kind := 7) (a := r89) (b := pa) (c := 0) (e := 0) (nd := nd2_93) (e_nd := show G87 31 = nd2_93 from (e101))  (h_kind := by omega) (h_a := by omega) (h_b := by omega) (h_c := by omega) (h_e := by omega)  (p_0 := by omega) (p_1 := by omega)) (fun o V' hq => ?_)
                        obtain ⟨G132, A133, r134, nd2_135, rfl, rfl, hW136, hF137, b138, e139, p140, p141, -⟩ := hq
                        have hF143 := Fr_tr hF110 hF137 (Fr_sub (by decide)) (Fr_sub (by decide))
                        have bnd2_135 : (0 : Int) ≤ nd2_135 ∧ nd2_135 ≤ 6999 := e139 ▸ hW136.1 31
                        refine .inr ⟨_, rfl, ?_⟩
                        refine jx_rt (v := some (.int (i32 (r134)))) rfl rfl rfl rfl rfl rfl ?_
                        have z144 := tz_f (tk2_94)
                        exact ⟨_, _, _, at2_90, fk2_91, op2_92, nd2_135, tk2_94, rfl, rfl, hW136, hF143, by omega, ((hF137.1 10 rfl).trans (e98)), ((hF137.1 16 rfl).trans (e99)), ((hF137.1 15 rfl).trans (e100)), (e139), ((hF137.1 11 rfl).trans (e102)), by omega, by omega, by omega, by omega, by omega, by omega, by first | exact Or.inl (⟨by omega, by omega, by omega⟩) | exact Or.inr ((⟨by omega, by omega, by omega⟩))⟩
                    · have _q := h86
                      refine jx_ar (pc' := 164) (st' := [.int (i32 (1)), .int (i32 (G 12)), .int (i32 (r43)), .ref 66]) rfl rfl rfl rfl ?_
                      refine jx_go (tg := 168) rfl rfl ?_
                      refine jx_vr (pc' := 171) (as := [.int (i32 (r43)), .int (i32 (G 12)), .int (i32 (1))]) (st := []) rfl rfl rfl rfl ⟨rfl, rfl, Nat.le_of_ble_eq_true rfl⟩ rfl rfl (c_readBehind (dd := d) (hd := by omega) (hW := hW76) (s := r43) (place := G 12) (ch := 1) (ln := ln) (e_ln := show G72 9 = ln from ((hF77.1 9 rfl).trans ((hF46.1 9 rfl).trans (e_ln)))) (le := le) (e_le := show A73 4 (ln).toNat = le from (congrFun ((hF77.2 4 rfl).trans (hF46.2 4 rfl)) _).trans (e_le)) (at0 := at2_74) (e_at0 := show G72 10 = at2_74 from (e78)) (fk := fk2_44) (e_fk := show G72 16 = fk2_44 from ((hF77.1 16 rfl).trans (e48))) (op0 := op0) (e_op0 := show G72 15 = op0 from ((hF77.1 15 rfl).trans ((hF46.1 15 rfl).trans (e_op0)))) (nd := nd) (e_nd := show G72 31 = nd from ((hF77.1 31 rfl).trans ((hF46.1 31 rfl).trans (e_nd)))) (tk0 := tk2_75) (e_tk0 := show G72 11 = tk2_75 from (e79))  (h_s := by omega) (h_place := by omega) (h_ch := by omega)  (p_0 := by omega) (p_1 := by omega) (p_2 := by omega) (p_3 := by omega) (p_4 := by omega) (p_5 := by omega) (p_6 := by omega) (p_7 := by omega) (p_8 := by omega)) (fun o V' hq => ?_)
                      obtain ⟨G145, A146, r147, at2_148, fk2_149, op2_150, nd2_151, tk2_152, rfl, rfl, hW153, hF154, b155, e156, e157, e158, e159, e160, p161, p162, p163, p164, p165, p166, q167⟩ := hq
                      have hF168 := Fr_tr hF84 hF154 (Fr_sub (by decide)) (Fr_sub (by decide))
                      have bat2_148 : (0 : Int) ≤ at2_148 ∧ at2_148 ≤ 3002 := e156 ▸ hW153.1 10
                      have bfk2_149 : (0 : Int) ≤ fk2_149 ∧ fk2_149 ≤ 6 := e157 ▸ hW153.1 16
                      have bop2_150 : (-2147483648 : Int) ≤ op2_150 ∧ op2_150 ≤ 2147483647 := e158 ▸ hW153.1 15
                      have bnd2_151 : (0 : Int) ≤ nd2_151 ∧ nd2_151 ≤ 6999 := e159 ▸ hW153.1 31
                      have ztk2_152 := tz_b tk2_152
                      have btk2_152 : (0 : Int) ≤ tk2_152 ∧ tk2_152 ≤ 5 := e160 ▸ hW153.1 11
                      refine .inr ⟨_, rfl, ?_⟩
                      rcases q167 with ⟨a169, a170, a171⟩ | ⟨a172, a173, a174⟩
                      · have _q : True := trivial
                        refine jx_ld (pc' := 172) (l' := jSto1 L64 3 (.int (i32 (r147)))) (st' := []) rfl rfl ?_
                        obtain ⟨L175, eL175⟩ : ∃ q, q = jSto1 L64 3 (.int (i32 (r147))) := ⟨_, rfl⟩
                        rw [← eL175]
                        have gL175_0 : jGet L175 0 = some (.ref 66) := eL175 ▸ jg_ne (by decide) gL64_0 rfl
                        have gL175_1 : jGet L175 1 = some (.int (i32 (pa))) := eL175 ▸ jg_ne (by decide) gL64_1 rfl
                        have gL175_2 : jGet L175 2 = some (.int (i32 (A 7 (pa).toNat))) := eL175 ▸ jg_ne (by decide) gL64_2 rfl
                        have gL175_4 : jGet L175 4 = some (.int (i32 (G 12))) := eL175 ▸ jg_ne (by decide) gL64_4 rfl
                        have gL175_5 : jGet L175 5 = some (.int (i32 (r43))) := eL175 ▸ jg_ne (by decide) gL64_5 rfl
                        have gL175_3 : jGet L175 3 = some (.int (i32 (r147))) := eL175 ▸ jg_eq
                        refine jx_ld (pc' := 173) (l' := L175) (st' := [.ref 66]) rfl (jl_aloadn gL175_0) ?_
                        refine jx_ar (pc' := 175) (st' := [.int (i32 (7)), .ref 66]) rfl rfl rfl rfl ?_
                        refine jx_ld (pc' := 176) (l' := L175) (st' := [.int (i32 (r147)), .int (i32 (7)), .ref 66]) rfl (jl_iloadn gL175_3) ?_
                        refine jx_ld (pc' := 177) (l' := L175) (st' := [.int (i32 (pa)), .int (i32 (r147)), .int (i32 (7)), .ref 66]) rfl (jl_iloadn gL175_1) ?_
                        refine jx_ar (pc' := 178) (st' := [.int (i32 (0)), .int (i32 (pa)), .int (i32 (r147)), .int (i32 (7)), .ref 66]) rfl rfl rfl rfl ?_
                        refine jx_ar (pc' := 179) (st' := [.int (i32 (0)), .int (i32 (0)), .int (i32 (pa)), .int (i32 (r147)), .int (i32 (7)), .ref 66]) rfl rfl rfl rfl ?_
                        refine jx_vr (pc' := 182) (as := [.int (i32 (7)), .int (i32 (r147)), .int (i32 (pa)), .int (i32 (0)), .int (i32 (0))]) (st := []) rfl rfl rfl rfl ⟨rfl, rfl, Nat.le_of_ble_eq_true rfl⟩ rfl rfl (c_node (dd := d) (hd := by omega) (hW := hW153) (kind := 7) (a := r147) (b := pa) (c := 0) (e := 0) (nd := nd2_151) (e_nd := show G145 31 = nd2_151 from (e159))  (h_kind := by omega) (h_a := by omega) (h_b := by omega) (h_c := by omega) (h_e := by omega)  (p_0 := by omega) (p_1 := by omega)) (fun o V' hq => ?_)
                        obtain ⟨G176, A177, r178, nd2_179, rfl, rfl, hW180, hF181, b182, e183, p184, p185, -⟩ := hq
                        have hF187 := Fr_tr hF168 hF181 (Fr_sub (by decide)) (Fr_sub (by decide))
                        have bnd2_179 : (0 : Int) ≤ nd2_179 ∧ nd2_179 ≤ 6999 := e183 ▸ hW180.1 31
                        refine .inr ⟨_, rfl, ?_⟩
                        refine jx_rt (v := some (.int (i32 (r178)))) rfl rfl rfl rfl rfl rfl ?_
                        have z188 := tz_f (tk2_152)
                        exact ⟨_, _, _, at2_148, fk2_149, op2_150, nd2_179, tk2_152, rfl, rfl, hW180, hF187, by omega, ((hF181.1 10 rfl).trans (e156)), ((hF181.1 16 rfl).trans (e157)), ((hF181.1 15 rfl).trans (e158)), (e183), ((hF181.1 11 rfl).trans (e160)), by omega, by omega, by omega, by omega, by omega, by omega, by first | exact Or.inl (⟨by omega, by omega, by omega⟩) | exact Or.inr ((⟨by omega, by omega, by omega⟩))⟩
                      · have _q : True := trivial
                        refine jx_ld (pc' := 172) (l' := jSto1 L64 3 (.int (i32 (r147)))) (st' := []) rfl rfl ?_
                        obtain ⟨L189, eL189⟩ : ∃ q, q = jSto1 L64 3 (.int (i32 (r147))) := ⟨_, rfl⟩
                        rw [← eL189]
                        have gL189_0 : jGet L189 0 = some (.ref 66) := eL189 ▸ jg_ne (by decide) gL64_0 rfl
                        have gL189_1 : jGet L189 1 = some (.int (i32 (pa))) := eL189 ▸ jg_ne (by decide) gL64_1 rfl
                        have gL189_2 : jGet L189 2 = some (.int (i32 (A 7 (pa).toNat))) := eL189 ▸ jg_ne (by decide) gL64_2 rfl
                        have gL189_4 : jGet L189 4 = some (.int (i32 (G 12))) := eL189 ▸ jg_ne (by decide) gL64_4 rfl
                        have gL189_5 : jGet L189 5 = some (.int (i32 (r43))) := eL189 ▸ jg_ne (by decide) gL64_5 rfl
                        have gL189_3 : jGet L189 3 = some (.int (i32 (r147))) := eL189 ▸ jg_eq
                        refine jx_ld (pc' := 173) (l' := L189) (st' := [.ref 66]) rfl (jl_aloadn gL189_0) ?_
                        refine jx_ar (pc' := 175) (st' := [.int (i32 (7)), .ref 66]) rfl rfl rfl rfl ?_
                        refine jx_ld (pc' := 176) (l' := L189) (st' := [.int (i32 (r147)), .int (i32 (7)), .ref 66]) rfl (jl_iloadn gL189_3) ?_
                        refine jx_ld (pc' := 177) (l' := L189) (st' := [.int (i32 (pa)), .int (i32 (r147)), .int (i32 (7)), .ref 66]) rfl (jl_iloadn gL189_1) ?_
                        refine jx_ar (pc' := 178) (st' := [.int (i32 (0)), .int (i32 (pa)), .int (i32 (r147)), .int (i32 (7)), .ref 66]) rfl rfl rfl rfl ?_
                        refine jx_ar (pc' := 179) (st' := [.int (i32 (0)), .int (i32 (0)), .int (i32 (pa)), .int (i32 (r147)), .int (i32 (7)), .ref 66]) rfl rfl rfl rfl ?_
                        refine jx_vr (pc' := 182) (as := [.int (i32 (7)), .int (i32 (r147)), .int (i32 (pa)), .int (i32 (0)), .int (i32 (0))]) (st := []) rfl rfl rfl rfl ⟨rfl, rfl, Nat.le_of_ble_eq_true rfl⟩ rfl rfl (c_node (dd := d) (hd := by omega) (hW := hW153) (kind := 7) (a := r147) (b := pa) (c := 0) (e := 0) (nd := nd2_151) (e_nd := show G145 31 = nd2_151 from (e159))  (h_kind := by omega) (h_a := by omega) (h_b := by omega) (h_c := by omega) (h_e := by omega)  (p_0 := by omega) (p_1 := by omega)) (fun o V' hq => ?_)
                        obtain ⟨G190, A191, r192, nd2_193, rfl, rfl, hW194, hF195, b196, e197, p198, p199, -⟩ := hq
                        have hF201 := Fr_tr hF168 hF195 (Fr_sub (by decide)) (Fr_sub (by decide))
                        have bnd2_193 : (0 : Int) ≤ nd2_193 ∧ nd2_193 ≤ 6999 := e197 ▸ hW194.1 31
                        refine .inr ⟨_, rfl, ?_⟩
                        refine jx_rt (v := some (.int (i32 (r192)))) rfl rfl rfl rfl rfl rfl ?_
                        have z202 := tz_f (tk2_152)
                        exact ⟨_, _, _, at2_148, fk2_149, op2_150, nd2_193, tk2_152, rfl, rfl, hW194, hF201, by omega, ((hF195.1 10 rfl).trans (e156)), ((hF195.1 16 rfl).trans (e157)), ((hF195.1 15 rfl).trans (e158)), (e197), ((hF195.1 11 rfl).trans (e160)), by omega, by omega, by omega, by omega, by omega, by omega, by first | exact Or.inl (⟨by omega, by omega, by omega⟩) | exact Or.inr ((⟨by omega, by omega, by omega⟩))⟩
                  · have _q := h85
                    refine jx_ld (pc' := 139) (l' := L64) (st' := [.ref 66]) rfl (jl_aloadn gL64_0) ?_
                    refine jx_ar (pc' := 140) (st' := [.int (i32 (2)), .ref 66]) rfl rfl rfl rfl ?_
                    refine jx_ld (pc' := 142) (l' := L64) (st' := [.int (i32 (r43)), .int (i32 (2)), .ref 66]) rfl (jl_iload gL64_5) ?_
                    refine jx_ar (pc' := 143) (st' := [.int (i32 (0)), .int (i32 (r43)), .int (i32 (2)), .ref 66]) rfl rfl rfl rfl ?_
                    refine jx_ar (pc' := 144) (st' := [.int (i32 (0)), .int (i32 (0)), .int (i32 (r43)), .int (i32 (2)), .ref 66]) rfl rfl rfl rfl ?_
                    refine jx_ar (pc' := 145) (st' := [.int (i32 (0)), .int (i32 (0)), .int (i32 (0)), .int (i32 (r43)), .int (i32 (2)), .ref 66]) rfl rfl rfl rfl ?_
                    refine jx_vr (pc' := 148) (as := [.int (i32 (2)), .int (i32 (r43)), .int (i32 (0)), .int (i32 (0)), .int (i32 (0))]) (st := []) rfl rfl rfl rfl ⟨rfl, rfl, Nat.le_of_ble_eq_true rfl⟩ rfl rfl (c_node (dd := d) (hd := by omega) (hW := hW76) (kind := 2) (a := r43) (b := 0) (c := 0) (e := 0) (nd := nd) (e_nd := show G72 31 = nd from ((hF77.1 31 rfl).trans ((hF46.1 31 rfl).trans (e_nd))))  (h_kind := by omega) (h_a := by omega) (h_b := by omega) (h_c := by omega) (h_e := by omega)  (p_0 := by omega) (p_1 := by omega)) (fun o V' hq => ?_)
                    obtain ⟨G203, A204, r205, nd2_206, rfl, rfl, hW207, hF208, b209, e210, p211, p212, -⟩ := hq
                    have hF214 := Fr_tr hF84 hF208 (Fr_sub (by decide)) (Fr_sub (by decide))
                    have bnd2_206 : (0 : Int) ≤ nd2_206 ∧ nd2_206 ≤ 6999 := e210 ▸ hW207.1 31
                    refine .inr ⟨_, rfl, ?_⟩
                    refine jx_ld (pc' := 149) (l' := jSto1 L64 3 (.int (i32 (r205)))) (st' := []) rfl rfl ?_
                    obtain ⟨L215, eL215⟩ : ∃ q, q = jSto1 L64 3 (.int (i32 (r205))) := ⟨_, rfl⟩
                    rw [← eL215]
                    have gL215_0 : jGet L215 0 = some (.ref 66) := eL215 ▸ jg_ne (by decide) gL64_0 rfl
                    have gL215_1 : jGet L215 1 = some (.int (i32 (pa))) := eL215 ▸ jg_ne (by decide) gL64_1 rfl
                    have gL215_2 : jGet L215 2 = some (.int (i32 (A 7 (pa).toNat))) := eL215 ▸ jg_ne (by decide) gL64_2 rfl
                    have gL215_4 : jGet L215 4 = some (.int (i32 (G 12))) := eL215 ▸ jg_ne (by decide) gL64_4 rfl
                    have gL215_5 : jGet L215 5 = some (.int (i32 (r43))) := eL215 ▸ jg_ne (by decide) gL64_5 rfl
                    have gL215_3 : jGet L215 3 = some (.int (i32 (r205))) := eL215 ▸ jg_eq
                    refine jx_go (tg := 172) rfl rfl ?_
                    refine jx_ld (pc' := 173) (l' := L215) (st' := [.ref 66]) rfl (jl_aloadn gL215_0) ?_
                    refine jx_ar (pc' := 175) (st' := [.int (i32 (7)), .ref 66]) rfl rfl rfl rfl ?_
                    refine jx_ld (pc' := 176) (l' := L215) (st' := [.int (i32 (r205)), .int (i32 (7)), .ref 66]) rfl (jl_iloadn gL215_3) ?_
                    refine jx_ld (pc' := 177) (l' := L215) (st' := [.int (i32 (pa)), .int (i32 (r205)), .int (i32 (7)), .ref 66]) rfl (jl_iloadn gL215_1) ?_
                    refine jx_ar (pc' := 178) (st' := [.int (i32 (0)), .int (i32 (pa)), .int (i32 (r205)), .int (i32 (7)), .ref 66]) rfl rfl rfl rfl ?_
                    refine jx_ar (pc' := 179) (st' := [.int (i32 (0)), .int (i32 (0)), .int (i32 (pa)), .int (i32 (r205)), .int (i32 (7)), .ref 66]) rfl rfl rfl rfl ?_
                    refine jx_vr (pc' := 182) (as := [.int (i32 (7)), .int (i32 (r205)), .int (i32 (pa)), .int (i32 (0)), .int (i32 (0))]) (st := []) rfl rfl rfl rfl ⟨rfl, rfl, Nat.le_of_ble_eq_true rfl⟩ rfl rfl (c_node (dd := d) (hd := by omega) (hW := hW207) (kind := 7) (a := r205) (b := pa) (c := 0) (e := 0) (nd := nd2_206) (e_nd := show G203 31 = nd2_206 from (e210))  (h_kind := by omega) (h_a := by omega) (h_b := by omega) (h_c := by omega) (h_e := by omega)  (p_0 := by omega) (p_1 := by omega)) (fun o V' hq => ?_)
                    obtain ⟨G216, A217, r218, nd2_219, rfl, rfl, hW220, hF221, b222, e223, p224, p225, -⟩ := hq
                    have hF227 := Fr_tr hF214 hF221 (Fr_sub (by decide)) (Fr_sub (by decide))
                    have bnd2_219 : (0 : Int) ≤ nd2_219 ∧ nd2_219 ≤ 6999 := e223 ▸ hW220.1 31
                    refine .inr ⟨_, rfl, ?_⟩
                    refine jx_rt (v := some (.int (i32 (r218)))) rfl rfl rfl rfl rfl rfl ?_
                    have z228 := tz_f (tk2_75)
                    exact ⟨_, _, _, at2_74, fk2_44, op0, nd2_219, tk2_75, rfl, rfl, hW220, hF227, by omega, ((hF221.1 10 rfl).trans ((hF208.1 10 rfl).trans (e78))), ((hF221.1 16 rfl).trans ((hF208.1 16 rfl).trans ((hF77.1 16 rfl).trans (e48)))), ((hF221.1 15 rfl).trans ((hF208.1 15 rfl).trans ((hF77.1 15 rfl).trans ((hF46.1 15 rfl).trans (e_op0))))), (e223), ((hF221.1 11 rfl).trans ((hF208.1 11 rfl).trans (e79))), by omega, by omega, by omega, by omega, by omega, by omega, by first | exact Or.inl (⟨by omega, by omega, by omega⟩) | exact Or.inr ((⟨by omega, by omega, by omega⟩))⟩
                · have _q := h71
                  refine jx_ld (pc' := 91) (l' := L64) (st' := [.ref 66]) rfl (jl_aloadn gL64_0) ?_
                  refine jr_get (pc' := 94) (i := 21) (v := .ref 74) rfl rfl (by decide) rfl rfl ?_
                  refine jx_ld (pc' := 96) (l' := L64) (st' := [.int (i32 (r43)), .ref 74]) rfl (jl_iload gL64_5) ?_
                  have b229 : (0 : Int) ≤ A 7 (r43).toNat ∧ A 7 (r43).toNat ≤ 14 := hW.2 7 _
                  refine jr_ldv (pc' := 97) (i := 7) (m := 260) (z := r43) (y := A 7 (r43).toNat) rfl (by decide) rfl (by decide) (by omega) (by omega) rfl (show A42 7 (r43).toNat = A 7 (r43).toNat from (congrFun (hF46.2 7 rfl) _)) ?_
                  refine jx_st (pc' := 100) (as := [.int (i32 (A 7 (r43).toNat))]) (st := []) rfl rfl ⟨rfl, Nat.le_of_ble_eq_true rfl⟩ rfl rfl rfl (c_isArray (dd := d) (hd := by omega) (k := A 7 (r43).toNat)   (h_k := by omega)  ) (fun o V' hq => ?_)
                  obtain ⟨r230, rfl, rfl, b231, q232⟩ := hq
                  refine .inr ⟨_, rfl, ?_⟩
                  rcases q232 with rfl | rfl
                  · have _q : True := trivial
                    refine jx_if_eq (pc' := 103) (tg := 119) rfl rfl rfl (by omega) (by omega) (fun h233 => ?_) (fun h233 => ?_)
                    · have _q := h233
                      exact absurd h233 (by omega)
                    · have _q := h233
                      refine jx_ld (pc' := 104) (l' := L64) (st' := [.ref 66]) rfl (jl_aloadn gL64_0) ?_
                      refine jr_get (pc' := 107) (i := 22) (v := .ref 75) rfl rfl (by decide) rfl rfl ?_
                      refine jx_ld (pc' := 109) (l' := L64) (st' := [.int (i32 (r43)), .ref 75]) rfl (jl_iload gL64_5) ?_
                      have b234 : (-2147483648 : Int) ≤ A 8 (r43).toNat ∧ A 8 (r43).toNat ≤ 2147483647 := hW.2 8 _
                      refine jr_ldv (pc' := 110) (i := 8) (m := 260) (z := r43) (y := A 8 (r43).toNat) rfl (by decide) rfl (by decide) (by omega) (by omega) rfl (show A42 8 (r43).toNat = A 8 (r43).toNat from (congrFun (hF46.2 8 rfl) _)) ?_
                      refine jx_ld (pc' := 111) (l' := L64) (st' := [.ref 66, .int (i32 (A 8 (r43).toNat))]) rfl (jl_aloadn gL64_0) ?_
                      refine jr_get (pc' := 114) (i := 22) (v := .ref 75) rfl rfl (by decide) rfl rfl ?_
                      refine jx_ld (pc' := 115) (l' := L64) (st' := [.int (i32 (pa)), .ref 75, .int (i32 (A 8 (r43).toNat))]) rfl (jl_iloadn gL64_1) ?_
                      have b235 : (-2147483648 : Int) ≤ A 8 (pa).toNat ∧ A 8 (pa).toNat ≤ 2147483647 := hW.2 8 _
                      refine jr_ldv (pc' := 116) (i := 8) (m := 260) (z := pa) (y := A 8 (pa).toNat) rfl (by decide) rfl (by decide) (by omega) (by omega) rfl (show A42 8 (pa).toNat = A 8 (pa).toNat from (congrFun (hF46.2 8 rfl) _)) ?_
                      refine jx_icmp_eq (pc' := 119) (tg := 128) rfl rfl rfl (by omega) (by omega) (by omega) (by omega) (fun h236 => ?_) (fun h236 => ?_)
                      · have _q := h236
                        refine jx_ld (pc' := 129) (l' := L64) (st' := [.ref 66]) rfl (jl_aloadn gL64_0) ?_
                        refine jx_vr (pc' := 132) (as := []) (st := []) rfl rfl rfl rfl ⟨rfl, rfl, Nat.le_of_ble_eq_true rfl⟩ rfl rfl (c_next (dd := d) (hd := by omega) (hW := hW45)  (ln := ln) (e_ln := show G41 9 = ln from ((hF46.1 9 rfl).trans (e_ln))) (le := le) (e_le := show A42 4 (ln).toNat = le from (congrFun (hF46.2 4 rfl) _).trans (e_le)) (at0 := at0) (e_at0 := show G41 10 = at0 from ((hF46.1 10 rfl).trans (e_at0)))    (p_0 := by omega)) (fun o V' hq => ?_)
                        obtain ⟨G237, A238, at2_239, tk2_240, rfl, rfl, hW241, hF242, e243, e244, p245, p246, p247, -⟩ := hq
                        have hF249 := Fr_tr hF50 hF242 (Fr_sub (by decide)) (Fr_sub (by decide))
                        have bat2_239 : (0 : Int) ≤ at2_239 ∧ at2_239 ≤ 3002 := e243 ▸ hW241.1 10
                        have ztk2_240 := tz_b tk2_240
                        have btk2_240 : (0 : Int) ≤ tk2_240 ∧ tk2_240 ≤ 5 := e244 ▸ hW241.1 11
                        refine .inl ⟨rfl, ?_⟩
                        refine jx_ld (pc' := 133) (l' := L64) (st' := [.int (i32 (A 7 (pa).toNat))]) rfl (jl_iloadn gL64_2) ?_
                        refine jx_ar (pc' := 135) (st' := [.int (i32 (7)), .int (i32 (A 7 (pa).toNat))]) rfl rfl rfl rfl ?_
                        refine jx_icmp_ne (pc' := 138) (tg := 152) rfl rfl rfl (by omega) (by omega) (by omega) (by omega) (fun h250 => ?_) (fun h250 => ?_)
                        · have _q := h250
                          refine jx_ld (pc' := 153) (l' := L64) (st' := [.ref 66]) rfl (jl_aloadn gL64_0) ?_
                          refine jx_ld (pc' := 155) (l' := L64) (st' := [.int (i32 (r43)), .ref 66]) rfl (jl_iload gL64_5) ?_
                          refine jx_ld (pc' := 157) (l' := L64) (st' := [.int (i32 (G 12)), .int (i32 (r43)), .ref 66]) rfl (jl_iload gL64_4) ?_
                          refine jx_ld (pc' := 158) (l' := L64) (st' := [.int (i32 (A 7 (pa).toNat)), .int (i32 (G 12)), .int (i32 (r43)), .ref 66]) rfl (jl_iloadn gL64_2) ?_
                          refine jx_ar (pc' := 160) (st' := [.int (i32 (8)), .int (i32 (A 7 (pa).toNat)), .int (i32 (G 12)), .int (i32 (r43)), .ref 66]) rfl rfl rfl rfl ?_
                          refine jx_icmp_ne (pc' := 163) (tg := 167) rfl rfl rfl (by omega) (by omega) (by omega) (by omega) (fun h251 => ?_) (fun h251 => ?_)
                          · have _q := h251
                            refine jx_ar (pc' := 168) (st' := [.int (i32 (0)), .int (i32 (G 12)), .int (i32 (r43)), .ref 66]) rfl rfl rfl rfl ?_
                            refine jx_vr (pc' := 171) (as := [.int (i32 (r43)), .int (i32 (G 12)), .int (i32 (0))]) (st := []) rfl rfl rfl rfl ⟨rfl, rfl, Nat.le_of_ble_eq_true rfl⟩ rfl rfl (c_readBehind (dd := d) (hd := by omega) (hW := hW241) (s := r43) (place := G 12) (ch := 0) (ln := ln) (e_ln := show G237 9 = ln from ((hF242.1 9 rfl).trans ((hF46.1 9 rfl).trans (e_ln)))) (le := le) (e_le := show A238 4 (ln).toNat = le from (congrFun ((hF242.2 4 rfl).trans (hF46.2 4 rfl)) _).trans (e_le)) (at0 := at2_239) (e_at0 := show G237 10 = at2_239 from (e243)) (fk := fk2_44) (e_fk := show G237 16 = fk2_44 from ((hF242.1 16 rfl).trans (e48))) (op0 := op0) (e_op0 := show G237 15 = op0 from ((hF242.1 15 rfl).trans ((hF46.1 15 rfl).trans (e_op0)))) (nd := nd) (e_nd := show G237 31 = nd from ((hF242.1 31 rfl).trans ((hF46.1 31 rfl).trans (e_nd)))) (tk0 := tk2_240) (e_tk0 := show G237 11 = tk2_240 from (e244))  (h_s := by omega) (h_place := by omega) (h_ch := by omega)  (p_0 := by omega) (p_1 := by omega) (p_2 := by omega) (p_3 := by omega) (p_4 := by omega) (p_5 := by omega) (p_6 := by omega) (p_7 := by omega) (p_8 := by omega)) (fun o V' hq => ?_)
                            obtain ⟨G252, A253, r254, at2_255, fk2_256, op2_257, nd2_258, tk2_259, rfl, rfl, hW260, hF261, b262, e263, e264, e265, e266, e267, p268, p269, p270, p271, p272, p273, q274⟩ := hq
                            have hF275 := Fr_tr hF249 hF261 (Fr_sub (by decide)) (Fr_sub (by decide))
                            have bat2_255 : (0 : Int) ≤ at2_255 ∧ at2_255 ≤ 3002 := e263 ▸ hW260.1 10
                            have bfk2_256 : (0 : Int) ≤ fk2_256 ∧ fk2_256 ≤ 6 := e264 ▸ hW260.1 16
                            have bop2_257 : (-2147483648 : Int) ≤ op2_257 ∧ op2_257 ≤ 2147483647 := e265 ▸ hW260.1 15
                            have bnd2_258 : (0 : Int) ≤ nd2_258 ∧ nd2_258 ≤ 6999 := e266 ▸ hW260.1 31
                            have ztk2_259 := tz_b tk2_259
                            have btk2_259 : (0 : Int) ≤ tk2_259 ∧ tk2_259 ≤ 5 := e267 ▸ hW260.1 11
                            refine .inr ⟨_, rfl, ?_⟩
                            rcases q274 with ⟨a276, a277, a278⟩ | ⟨a279, a280, a281⟩
                            · have _q : True := trivial
                              refine jx_ld (pc' := 172) (l' := jSto1 L64 3 (.int (i32 (r254)))) (st' := []) rfl rfl ?_
                              obtain ⟨L282, eL282⟩ : ∃ q, q = jSto1 L64 3 (.int (i32 (r254))) := ⟨_, rfl⟩
                              rw [← eL282]
                              have gL282_0 : jGet L282 0 = some (.ref 66) := eL282 ▸ jg_ne (by decide) gL64_0 rfl
                              have gL282_1 : jGet L282 1 = some (.int (i32 (pa))) := eL282 ▸ jg_ne (by decide) gL64_1 rfl
                              have gL282_2 : jGet L282 2 = some (.int (i32 (A 7 (pa).toNat))) := eL282 ▸ jg_ne (by decide) gL64_2 rfl
                              have gL282_4 : jGet L282 4 = some (.int (i32 (G 12))) := eL282 ▸ jg_ne (by decide) gL64_4 rfl
                              have gL282_5 : jGet L282 5 = some (.int (i32 (r43))) := eL282 ▸ jg_ne (by decide) gL64_5 rfl
                              have gL282_3 : jGet L282 3 = some (.int (i32 (r254))) := eL282 ▸ jg_eq
                              refine jx_ld (pc' := 173) (l' := L282) (st' := [.ref 66]) rfl (jl_aloadn gL282_0) ?_
                              refine jx_ar (pc' := 175) (st' := [.int (i32 (7)), .ref 66]) rfl rfl rfl rfl ?_
                              refine jx_ld (pc' := 176) (l' := L282) (st' := [.int (i32 (r254)), .int (i32 (7)), .ref 66]) rfl (jl_iloadn gL282_3) ?_
                              refine jx_ld (pc' := 177) (l' := L282) (st' := [.int (i32 (pa)), .int (i32 (r254)), .int (i32 (7)), .ref 66]) rfl (jl_iloadn gL282_1) ?_
                              refine jx_ar (pc' := 178) (st' := [.int (i32 (0)), .int (i32 (pa)), .int (i32 (r254)), .int (i32 (7)), .ref 66]) rfl rfl rfl rfl ?_
                              refine jx_ar (pc' := 179) (st' := [.int (i32 (0)), .int (i32 (0)), .int (i32 (pa)), .int (i32 (r254)), .int (i32 (7)), .ref 66]) rfl rfl rfl rfl ?_
                              refine jx_vr (pc' := 182) (as := [.int (i32 (7)), .int (i32 (r254)), .int (i32 (pa)), .int (i32 (0)), .int (i32 (0))]) (st := []) rfl rfl rfl rfl ⟨rfl, rfl, Nat.le_of_ble_eq_true rfl⟩ rfl rfl (c_node (dd := d) (hd := by omega) (hW := hW260) (kind := 7) (a := r254) (b := pa) (c := 0) (e := 0) (nd := nd2_258) (e_nd := show G252 31 = nd2_258 from (e266))  (h_kind := by omega) (h_a := by omega) (h_b := by omega) (h_c := by omega) (h_e := by omega)  (p_0 := by omega) (p_1 := by omega)) (fun o V' hq => ?_)
                              obtain ⟨G283, A284, r285, nd2_286, rfl, rfl, hW287, hF288, b289, e290, p291, p292, -⟩ := hq
                              have hF294 := Fr_tr hF275 hF288 (Fr_sub (by decide)) (Fr_sub (by decide))
                              have bnd2_286 : (0 : Int) ≤ nd2_286 ∧ nd2_286 ≤ 6999 := e290 ▸ hW287.1 31
                              refine .inr ⟨_, rfl, ?_⟩
                              refine jx_rt (v := some (.int (i32 (r285)))) rfl rfl rfl rfl rfl rfl ?_
                              have z295 := tz_f (tk2_259)
                              exact ⟨_, _, _, at2_255, fk2_256, op2_257, nd2_286, tk2_259, rfl, rfl, hW287, hF294, by omega, ((hF288.1 10 rfl).trans (e263)), ((hF288.1 16 rfl).trans (e264)), ((hF288.1 15 rfl).trans (e265)), (e290), ((hF288.1 11 rfl).trans (e267)), by omega, by omega, by omega, by omega, by omega, by omega, by first | exact Or.inl (⟨by omega, by omega, by omega⟩) | exact Or.inr ((⟨by omega, by omega, by omega⟩))⟩
                            · have _q : True := trivial
                              refine jx_ld (pc' := 172) (l' := jSto1 L64 3 (.int (i32 (r254)))) (st' := []) rfl rfl ?_
                              obtain ⟨L296, eL296⟩ : ∃ q, q = jSto1 L64 3 (.int (i32 (r254))) := ⟨_, rfl⟩
                              rw [← eL296]
                              have gL296_0 : jGet L296 0 = some (.ref 66) := eL296 ▸ jg_ne (by decide) gL64_0 rfl
                              have gL296_1 : jGet L296 1 = some (.int (i32 (pa))) := eL296 ▸ jg_ne (by decide) gL64_1 rfl
                              have gL296_2 : jGet L296 2 = some (.int (i32 (A 7 (pa).toNat))) := eL296 ▸ jg_ne (by decide) gL64_2 rfl
                              have gL296_4 : jGet L296 4 = some (.int (i32 (G 12))) := eL296 ▸ jg_ne (by decide) gL64_4 rfl
                              have gL296_5 : jGet L296 5 = some (.int (i32 (r43))) := eL296 ▸ jg_ne (by decide) gL64_5 rfl
                              have gL296_3 : jGet L296 3 = some (.int (i32 (r254))) := eL296 ▸ jg_eq
                              refine jx_ld (pc' := 173) (l' := L296) (st' := [.ref 66]) rfl (jl_aloadn gL296_0) ?_
                              refine jx_ar (pc' := 175) (st' := [.int (i32 (7)), .ref 66]) rfl rfl rfl rfl ?_
                              refine jx_ld (pc' := 176) (l' := L296) (st' := [.int (i32 (r254)), .int (i32 (7)), .ref 66]) rfl (jl_iloadn gL296_3) ?_
                              refine jx_ld (pc' := 177) (l' := L296) (st' := [.int (i32 (pa)), .int (i32 (r254)), .int (i32 (7)), .ref 66]) rfl (jl_iloadn gL296_1) ?_
                              refine jx_ar (pc' := 178) (st' := [.int (i32 (0)), .int (i32 (pa)), .int (i32 (r254)), .int (i32 (7)), .ref 66]) rfl rfl rfl rfl ?_
                              refine jx_ar (pc' := 179) (st' := [.int (i32 (0)), .int (i32 (0)), .int (i32 (pa)), .int (i32 (r254)), .int (i32 (7)), .ref 66]) rfl rfl rfl rfl ?_
                              refine jx_vr (pc' := 182) (as := [.int (i32 (7)), .int (i32 (r254)), .int (i32 (pa)), .int (i32 (0)), .int (i32 (0))]) (st := []) rfl rfl rfl rfl ⟨rfl, rfl, Nat.le_of_ble_eq_true rfl⟩ rfl rfl (c_node (dd := d) (hd := by omega) (hW := hW260) (kind := 7) (a := r254) (b := pa) (c := 0) (e := 0) (nd := nd2_258) (e_nd := show G252 31 = nd2_258 from (e266))  (h_kind := by omega) (h_a := by omega) (h_b := by omega) (h_c := by omega) (h_e := by omega)  (p_0 := by omega) (p_1 := by omega)) (fun o V' hq => ?_)
                              obtain ⟨G297, A298, r299, nd2_300, rfl, rfl, hW301, hF302, b303, e304, p305, p306, -⟩ := hq
                              have hF308 := Fr_tr hF275 hF302 (Fr_sub (by decide)) (Fr_sub (by decide))
                              have bnd2_300 : (0 : Int) ≤ nd2_300 ∧ nd2_300 ≤ 6999 := e304 ▸ hW301.1 31
                              refine .inr ⟨_, rfl, ?_⟩
                              refine jx_rt (v := some (.int (i32 (r299)))) rfl rfl rfl rfl rfl rfl ?_
                              have z309 := tz_f (tk2_259)
                              exact ⟨_, _, _, at2_255, fk2_256, op2_257, nd2_300, tk2_259, rfl, rfl, hW301, hF308, by omega, ((hF302.1 10 rfl).trans (e263)), ((hF302.1 16 rfl).trans (e264)), ((hF302.1 15 rfl).trans (e265)), (e304), ((hF302.1 11 rfl).trans (e267)), by omega, by omega, by omega, by omega, by omega, by omega, by first | exact Or.inl (⟨by omega, by omega, by omega⟩) | exact Or.inr ((⟨by omega, by omega, by omega⟩))⟩
                          · have _q := h251
                            refine jx_ar (pc' := 164) (st' := [.int (i32 (1)), .int (i32 (G 12)), .int (i32 (r43)), .ref 66]) rfl rfl rfl rfl ?_
                            refine jx_go (tg := 168) rfl rfl ?_
                            refine jx_vr (pc' := 171) (as := [.int (i32 (r43)), .int (i32 (G 12)), .int (i32 (1))]) (st := []) rfl rfl rfl rfl ⟨rfl, rfl, Nat.le_of_ble_eq_true rfl⟩ rfl rfl (c_readBehind (dd := d) (hd := by omega) (hW := hW241) (s := r43) (place := G 12) (ch := 1) (ln := ln) (e_ln := show G237 9 = ln from ((hF242.1 9 rfl).trans ((hF46.1 9 rfl).trans (e_ln)))) (le := le) (e_le := show A238 4 (ln).toNat = le from (congrFun ((hF242.2 4 rfl).trans (hF46.2 4 rfl)) _).trans (e_le)) (at0 := at2_239) (e_at0 := show G237 10 = at2_239 from (e243)) (fk := fk2_44) (e_fk := show G237 16 = fk2_44 from ((hF242.1 16 rfl).trans (e48))) (op0 := op0) (e_op0 := show G237 15 = op0 from ((hF242.1 15 rfl).trans ((hF46.1 15 rfl).trans (e_op0)))) (nd := nd) (e_nd := show G237 31 = nd from ((hF242.1 31 rfl).trans ((hF46.1 31 rfl).trans (e_nd)))) (tk0 := tk2_240) (e_tk0 := show G237 11 = tk2_240 from (e244))  (h_s := by omega) (h_place := by omega) (h_ch := by omega)  (p_0 := by omega) (p_1 := by omega) (p_2 := by omega) (p_3 := by omega) (p_4 := by omega) (p_5 := by omega) (p_6 := by omega) (p_7 := by omega) (p_8 := by omega)) (fun o V' hq => ?_)
                            obtain ⟨G310, A311, r312, at2_313, fk2_314, op2_315, nd2_316, tk2_317, rfl, rfl, hW318, hF319, b320, e321, e322, e323, e324, e325, p326, p327, p328, p329, p330, p331, q332⟩ := hq
                            have hF333 := Fr_tr hF249 hF319 (Fr_sub (by decide)) (Fr_sub (by decide))
                            have bat2_313 : (0 : Int) ≤ at2_313 ∧ at2_313 ≤ 3002 := e321 ▸ hW318.1 10
                            have bfk2_314 : (0 : Int) ≤ fk2_314 ∧ fk2_314 ≤ 6 := e322 ▸ hW318.1 16
                            have bop2_315 : (-2147483648 : Int) ≤ op2_315 ∧ op2_315 ≤ 2147483647 := e323 ▸ hW318.1 15
                            have bnd2_316 : (0 : Int) ≤ nd2_316 ∧ nd2_316 ≤ 6999 := e324 ▸ hW318.1 31
                            have ztk2_317 := tz_b tk2_317
                            have btk2_317 : (0 : Int) ≤ tk2_317 ∧ tk2_317 ≤ 5 := e325 ▸ hW318.1 11
                            refine .inr ⟨_, rfl, ?_⟩
                            rcases q332 with ⟨a334, a335, a336⟩ | ⟨a337, a338, a339⟩
                            · have _q : True := trivial
                              refine jx_ld (pc' := 172) (l' := jSto1 L64 3 (.int (i32 (r312)))) (st' := []) rfl rfl ?_
                              obtain ⟨L340, eL340⟩ : ∃ q, q = jSto1 L64 3 (.int (i32 (r312))) := ⟨_, rfl⟩
                              rw [← eL340]
                              have gL340_0 : jGet L340 0 = some (.ref 66) := eL340 ▸ jg_ne (by decide) gL64_0 rfl
                              have gL340_1 : jGet L340 1 = some (.int (i32 (pa))) := eL340 ▸ jg_ne (by decide) gL64_1 rfl
                              have gL340_2 : jGet L340 2 = some (.int (i32 (A 7 (pa).toNat))) := eL340 ▸ jg_ne (by decide) gL64_2 rfl
                              have gL340_4 : jGet L340 4 = some (.int (i32 (G 12))) := eL340 ▸ jg_ne (by decide) gL64_4 rfl
                              have gL340_5 : jGet L340 5 = some (.int (i32 (r43))) := eL340 ▸ jg_ne (by decide) gL64_5 rfl
                              have gL340_3 : jGet L340 3 = some (.int (i32 (r312))) := eL340 ▸ jg_eq
                              refine jx_ld (pc' := 173) (l' := L340) (st' := [.ref 66]) rfl (jl_aloadn gL340_0) ?_
                              refine jx_ar (pc' := 175) (st' := [.int (i32 (7)), .ref 66]) rfl rfl rfl rfl ?_
                              refine jx_ld (pc' := 176) (l' := L340) (st' := [.int (i32 (r312)), .int (i32 (7)), .ref 66]) rfl (jl_iloadn gL340_3) ?_
                              refine jx_ld (pc' := 177) (l' := L340) (st' := [.int (i32 (pa)), .int (i32 (r312)), .int (i32 (7)), .ref 66]) rfl (jl_iloadn gL340_1) ?_
                              refine jx_ar (pc' := 178) (st' := [.int (i32 (0)), .int (i32 (pa)), .int (i32 (r312)), .int (i32 (7)), .ref 66]) rfl rfl rfl rfl ?_
                              refine jx_ar (pc' := 179) (st' := [.int (i32 (0)), .int (i32 (0)), .int (i32 (pa)), .int (i32 (r312)), .int (i32 (7)), .ref 66]) rfl rfl rfl rfl ?_
                              refine jx_vr (pc' := 182) (as := [.int (i32 (7)), .int (i32 (r312)), .int (i32 (pa)), .int (i32 (0)), .int (i32 (0))]) (st := []) rfl rfl rfl rfl ⟨rfl, rfl, Nat.le_of_ble_eq_true rfl⟩ rfl rfl (c_node (dd := d) (hd := by omega) (hW := hW318) (kind := 7) (a := r312) (b := pa) (c := 0) (e := 0) (nd := nd2_316) (e_nd := show G310 31 = nd2_316 from (e324))  (h_kind := by omega) (h_a := by omega) (h_b := by omega) (h_c := by omega) (h_e := by omega)  (p_0 := by omega) (p_1 := by omega)) (fun o V' hq => ?_)
                              obtain ⟨G341, A342, r343, nd2_344, rfl, rfl, hW345, hF346, b347, e348, p349, p350, -⟩ := hq
                              have hF352 := Fr_tr hF333 hF346 (Fr_sub (by decide)) (Fr_sub (by decide))
                              have bnd2_344 : (0 : Int) ≤ nd2_344 ∧ nd2_344 ≤ 6999 := e348 ▸ hW345.1 31
                              refine .inr ⟨_, rfl, ?_⟩
                              refine jx_rt (v := some (.int (i32 (r343)))) rfl rfl rfl rfl rfl rfl ?_
                              have z353 := tz_f (tk2_317)
                              exact ⟨_, _, _, at2_313, fk2_314, op2_315, nd2_344, tk2_317, rfl, rfl, hW345, hF352, by omega, ((hF346.1 10 rfl).trans (e321)), ((hF346.1 16 rfl).trans (e322)), ((hF346.1 15 rfl).trans (e323)), (e348), ((hF346.1 11 rfl).trans (e325)), by omega, by omega, by omega, by omega, by omega, by omega, by first | exact Or.inl (⟨by omega, by omega, by omega⟩) | exact Or.inr ((⟨by omega, by omega, by omega⟩))⟩
                            · have _q : True := trivial
                              refine jx_ld (pc' := 172) (l' := jSto1 L64 3 (.int (i32 (r312)))) (st' := []) rfl rfl ?_
                              obtain ⟨L354, eL354⟩ : ∃ q, q = jSto1 L64 3 (.int (i32 (r312))) := ⟨_, rfl⟩
                              rw [← eL354]
                              have gL354_0 : jGet L354 0 = some (.ref 66) := eL354 ▸ jg_ne (by decide) gL64_0 rfl
                              have gL354_1 : jGet L354 1 = some (.int (i32 (pa))) := eL354 ▸ jg_ne (by decide) gL64_1 rfl
                              have gL354_2 : jGet L354 2 = some (.int (i32 (A 7 (pa).toNat))) := eL354 ▸ jg_ne (by decide) gL64_2 rfl
                              have gL354_4 : jGet L354 4 = some (.int (i32 (G 12))) := eL354 ▸ jg_ne (by decide) gL64_4 rfl
                              have gL354_5 : jGet L354 5 = some (.int (i32 (r43))) := eL354 ▸ jg_ne (by decide) gL64_5 rfl
                              have gL354_3 : jGet L354 3 = some (.int (i32 (r312))) := eL354 ▸ jg_eq
                              refine jx_ld (pc' := 173) (l' := L354) (st' := [.ref 66]) rfl (jl_aloadn gL354_0) ?_
                              refine jx_ar (pc' := 175) (st' := [.int (i32 (7)), .ref 66]) rfl rfl rfl rfl ?_
                              refine jx_ld (pc' := 176) (l' := L354) (st' := [.int (i32 (r312)), .int (i32 (7)), .ref 66]) rfl (jl_iloadn gL354_3) ?_
                              refine jx_ld (pc' := 177) (l' := L354) (st' := [.int (i32 (pa)), .int (i32 (r312)), .int (i32 (7)), .ref 66]) rfl (jl_iloadn gL354_1) ?_
                              refine jx_ar (pc' := 178) (st' := [.int (i32 (0)), .int (i32 (pa)), .int (i32 (r312)), .int (i32 (7)), .ref 66]) rfl rfl rfl rfl ?_
                              refine jx_ar (pc' := 179) (st' := [.int (i32 (0)), .int (i32 (0)), .int (i32 (pa)), .int (i32 (r312)), .int (i32 (7)), .ref 66]) rfl rfl rfl rfl ?_
                              refine jx_vr (pc' := 182) (as := [.int (i32 (7)), .int (i32 (r312)), .int (i32 (pa)), .int (i32 (0)), .int (i32 (0))]) (st := []) rfl rfl rfl rfl ⟨rfl, rfl, Nat.le_of_ble_eq_true rfl⟩ rfl rfl (c_node (dd := d) (hd := by omega) (hW := hW318) (kind := 7) (a := r312) (b := pa) (c := 0) (e := 0) (nd := nd2_316) (e_nd := show G310 31 = nd2_316 from (e324))  (h_kind := by omega) (h_a := by omega) (h_b := by omega) (h_c := by omega) (h_e := by omega)  (p_0 := by omega) (p_1 := by omega)) (fun o V' hq => ?_)
                              obtain ⟨G355, A356, r357, nd2_358, rfl, rfl, hW359, hF360, b361, e362, p363, p364, -⟩ := hq
                              have hF366 := Fr_tr hF333 hF360 (Fr_sub (by decide)) (Fr_sub (by decide))
                              have bnd2_358 : (0 : Int) ≤ nd2_358 ∧ nd2_358 ≤ 6999 := e362 ▸ hW359.1 31
                              refine .inr ⟨_, rfl, ?_⟩
                              refine jx_rt (v := some (.int (i32 (r357)))) rfl rfl rfl rfl rfl rfl ?_
                              have z367 := tz_f (tk2_317)
                              exact ⟨_, _, _, at2_313, fk2_314, op2_315, nd2_358, tk2_317, rfl, rfl, hW359, hF366, by omega, ((hF360.1 10 rfl).trans (e321)), ((hF360.1 16 rfl).trans (e322)), ((hF360.1 15 rfl).trans (e323)), (e362), ((hF360.1 11 rfl).trans (e325)), by omega, by omega, by omega, by omega, by omega, by omega, by first | exact Or.inl (⟨by omega, by omega, by omega⟩) | exact Or.inr ((⟨by omega, by omega, by omega⟩))⟩
                        · have _q := h250
                          refine jx_ld (pc' := 139) (l' := L64) (st' := [.ref 66]) rfl (jl_aloadn gL64_0) ?_
                          refine jx_ar (pc' := 140) (st' := [.int (i32 (2)), .ref 66]) rfl rfl rfl rfl ?_
                          refine jx_ld (pc' := 142) (l' := L64) (st' := [.int (i32 (r43)), .int (i32 (2)), .ref 66]) rfl (jl_iload gL64_5) ?_
                          refine jx_ar (pc' := 143) (st' := [.int (i32 (0)), .int (i32 (r43)), .int (i32 (2)), .ref 66]) rfl rfl rfl rfl ?_
                          refine jx_ar (pc' := 144) (st' := [.int (i32 (0)), .int (i32 (0)), .int (i32 (r43)), .int (i32 (2)), .ref 66]) rfl rfl rfl rfl ?_
                          refine jx_ar (pc' := 145) (st' := [.int (i32 (0)), .int (i32 (0)), .int (i32 (0)), .int (i32 (r43)), .int (i32 (2)), .ref 66]) rfl rfl rfl rfl ?_
                          refine jx_vr (pc' := 148) (as := [.int (i32 (2)), .int (i32 (r43)), .int (i32 (0)), .int (i32 (0)), .int (i32 (0))]) (st := []) rfl rfl rfl rfl ⟨rfl, rfl, Nat.le_of_ble_eq_true rfl⟩ rfl rfl (c_node (dd := d) (hd := by omega) (hW := hW241) (kind := 2) (a := r43) (b := 0) (c := 0) (e := 0) (nd := nd) (e_nd := show G237 31 = nd from ((hF242.1 31 rfl).trans ((hF46.1 31 rfl).trans (e_nd))))  (h_kind := by omega) (h_a := by omega) (h_b := by omega) (h_c := by omega) (h_e := by omega)  (p_0 := by omega) (p_1 := by omega)) (fun o V' hq => ?_)
                          obtain ⟨G368, A369, r370, nd2_371, rfl, rfl, hW372, hF373, b374, e375, p376, p377, -⟩ := hq
                          have hF379 := Fr_tr hF249 hF373 (Fr_sub (by decide)) (Fr_sub (by decide))
                          have bnd2_371 : (0 : Int) ≤ nd2_371 ∧ nd2_371 ≤ 6999 := e375 ▸ hW372.1 31
                          refine .inr ⟨_, rfl, ?_⟩
                          refine jx_ld (pc' := 149) (l' := jSto1 L64 3 (.int (i32 (r370)))) (st' := []) rfl rfl ?_
                          obtain ⟨L380, eL380⟩ : ∃ q, q = jSto1 L64 3 (.int (i32 (r370))) := ⟨_, rfl⟩
                          rw [← eL380]
                          have gL380_0 : jGet L380 0 = some (.ref 66) := eL380 ▸ jg_ne (by decide) gL64_0 rfl
                          have gL380_1 : jGet L380 1 = some (.int (i32 (pa))) := eL380 ▸ jg_ne (by decide) gL64_1 rfl
                          have gL380_2 : jGet L380 2 = some (.int (i32 (A 7 (pa).toNat))) := eL380 ▸ jg_ne (by decide) gL64_2 rfl
                          have gL380_4 : jGet L380 4 = some (.int (i32 (G 12))) := eL380 ▸ jg_ne (by decide) gL64_4 rfl
                          have gL380_5 : jGet L380 5 = some (.int (i32 (r43))) := eL380 ▸ jg_ne (by decide) gL64_5 rfl
                          have gL380_3 : jGet L380 3 = some (.int (i32 (r370))) := eL380 ▸ jg_eq
                          refine jx_go (tg := 172) rfl rfl ?_
                          refine jx_ld (pc' := 173) (l' := L380) (st' := [.ref 66]) rfl (jl_aloadn gL380_0) ?_
                          refine jx_ar (pc' := 175) (st' := [.int (i32 (7)), .ref 66]) rfl rfl rfl rfl ?_
                          refine jx_ld (pc' := 176) (l' := L380) (st' := [.int (i32 (r370)), .int (i32 (7)), .ref 66]) rfl (jl_iloadn gL380_3) ?_
                          refine jx_ld (pc' := 177) (l' := L380) (st' := [.int (i32 (pa)), .int (i32 (r370)), .int (i32 (7)), .ref 66]) rfl (jl_iloadn gL380_1) ?_
                          refine jx_ar (pc' := 178) (st' := [.int (i32 (0)), .int (i32 (pa)), .int (i32 (r370)), .int (i32 (7)), .ref 66]) rfl rfl rfl rfl ?_
                          refine jx_ar (pc' := 179) (st' := [.int (i32 (0)), .int (i32 (0)), .int (i32 (pa)), .int (i32 (r370)), .int (i32 (7)), .ref 66]) rfl rfl rfl rfl ?_
                          refine jx_vr (pc' := 182) (as := [.int (i32 (7)), .int (i32 (r370)), .int (i32 (pa)), .int (i32 (0)), .int (i32 (0))]) (st := []) rfl rfl rfl rfl ⟨rfl, rfl, Nat.le_of_ble_eq_true rfl⟩ rfl rfl (c_node (dd := d) (hd := by omega) (hW := hW372) (kind := 7) (a := r370) (b := pa) (c := 0) (e := 0) (nd := nd2_371) (e_nd := show G368 31 = nd2_371 from (e375))  (h_kind := by omega) (h_a := by omega) (h_b := by omega) (h_c := by omega) (h_e := by omega)  (p_0 := by omega) (p_1 := by omega)) (fun o V' hq => ?_)
                          obtain ⟨G381, A382, r383, nd2_384, rfl, rfl, hW385, hF386, b387, e388, p389, p390, -⟩ := hq
                          have hF392 := Fr_tr hF379 hF386 (Fr_sub (by decide)) (Fr_sub (by decide))
                          have bnd2_384 : (0 : Int) ≤ nd2_384 ∧ nd2_384 ≤ 6999 := e388 ▸ hW385.1 31
                          refine .inr ⟨_, rfl, ?_⟩
                          refine jx_rt (v := some (.int (i32 (r383)))) rfl rfl rfl rfl rfl rfl ?_
                          have z393 := tz_f (tk2_240)
                          exact ⟨_, _, _, at2_239, fk2_44, op0, nd2_384, tk2_240, rfl, rfl, hW385, hF392, by omega, ((hF386.1 10 rfl).trans ((hF373.1 10 rfl).trans (e243))), ((hF386.1 16 rfl).trans ((hF373.1 16 rfl).trans ((hF242.1 16 rfl).trans (e48)))), ((hF386.1 15 rfl).trans ((hF373.1 15 rfl).trans ((hF242.1 15 rfl).trans ((hF46.1 15 rfl).trans (e_op0))))), (e388), ((hF386.1 11 rfl).trans ((hF373.1 11 rfl).trans (e244))), by omega, by omega, by omega, by omega, by omega, by omega, by first | exact Or.inl (⟨by omega, by omega, by omega⟩) | exact Or.inr ((⟨by omega, by omega, by omega⟩))⟩
                      · have _q := h236
                        refine jx_ld (pc' := 120) (l' := L64) (st' := [.ref 66]) rfl (jl_aloadn gL64_0) ?_
                        refine jx_ar (pc' := 121) (st' := [.int (i32 (4)), .ref 66]) rfl rfl rfl rfl ?_
                        refine jx_ld (pc' := 123) (l' := L64) (st' := [.int (i32 (G 12)), .int (i32 (4)), .ref 66]) rfl (jl_iload gL64_4) ?_
                        refine jx_vr (pc' := 126) (as := [.int (i32 (4)), .int (i32 (G 12))]) (st := []) rfl rfl rfl rfl ⟨rfl, rfl, Nat.le_of_ble_eq_true rfl⟩ rfl rfl (c_fail (dd := d) (hd := by omega) (hW := hW45) (kind := 4) (place := G 12) (fk := fk2_44) (e_fk := show G41 16 = fk2_44 from (e48))  (h_kind := by omega) (h_place := by omega)  (p_0 := by omega) (p_1 := by omega)) (fun o V' hq => ?_)
                        obtain ⟨G394, A395, fk2_396, rfl, rfl, hW397, hF398, e399, p400, -⟩ := hq
                        have hF402 := Fr_tr hF50 hF398 (Fr_sub (by decide)) (Fr_sub (by decide))
                        have bfk2_396 : (0 : Int) ≤ fk2_396 ∧ fk2_396 ≤ 6 := e399 ▸ hW397.1 16
                        refine .inl ⟨rfl, ?_⟩
                        refine jx_ar (pc' := 127) (st' := [.int (i32 (0))]) rfl rfl rfl rfl ?_
                        refine jx_rt (v := some (.int (i32 (0)))) rfl rfl rfl rfl rfl rfl ?_
                        have z403 := tz_f (tk0)
                        exact ⟨_, _, _, at0, fk2_396, op0, nd, tk0, rfl, rfl, hW397, hF402, by omega, ((hF398.1 10 rfl).trans ((hF46.1 10 rfl).trans (e_at0))), (e399), ((hF398.1 15 rfl).trans ((hF46.1 15 rfl).trans (e_op0))), ((hF398.1 31 rfl).trans ((hF46.1 31 rfl).trans (e_nd))), ((hF398.1 11 rfl).trans ((hF46.1 11 rfl).trans (e_tk0))), by omega, by omega, by omega, by omega, by omega, by omega, by first | exact Or.inl (⟨by omega, by omega, by omega⟩) | exact Or.inr ((⟨by omega, by omega, by omega⟩))⟩
                  · have _q : True := trivial
                    refine jx_if_eq (pc' := 103) (tg := 119) rfl rfl rfl (by omega) (by omega) (fun h404 => ?_) (fun h404 => ?_)
                    · have _q := h404
                      refine jx_ld (pc' := 120) (l' := L64) (st' := [.ref 66]) rfl (jl_aloadn gL64_0) ?_
                      refine jx_ar (pc' := 121) (st' := [.int (i32 (4)), .ref 66]) rfl rfl rfl rfl ?_
                      refine jx_ld (pc' := 123) (l' := L64) (st' := [.int (i32 (G 12)), .int (i32 (4)), .ref 66]) rfl (jl_iload gL64_4) ?_
                      refine jx_vr (pc' := 126) (as := [.int (i32 (4)), .int (i32 (G 12))]) (st := []) rfl rfl rfl rfl ⟨rfl, rfl, Nat.le_of_ble_eq_true rfl⟩ rfl rfl (c_fail (dd := d) (hd := by omega) (hW := hW45) (kind := 4) (place := G 12) (fk := fk2_44) (e_fk := show G41 16 = fk2_44 from (e48))  (h_kind := by omega) (h_place := by omega)  (p_0 := by omega) (p_1 := by omega)) (fun o V' hq => ?_)
                      obtain ⟨G405, A406, fk2_407, rfl, rfl, hW408, hF409, e410, p411, -⟩ := hq
                      have hF413 := Fr_tr hF50 hF409 (Fr_sub (by decide)) (Fr_sub (by decide))
                      have bfk2_407 : (0 : Int) ≤ fk2_407 ∧ fk2_407 ≤ 6 := e410 ▸ hW408.1 16
                      refine .inl ⟨rfl, ?_⟩
                      refine jx_ar (pc' := 127) (st' := [.int (i32 (0))]) rfl rfl rfl rfl ?_
                      refine jx_rt (v := some (.int (i32 (0)))) rfl rfl rfl rfl rfl rfl ?_
                      have z414 := tz_f (tk0)
                      exact ⟨_, _, _, at0, fk2_407, op0, nd, tk0, rfl, rfl, hW408, hF413, by omega, ((hF409.1 10 rfl).trans ((hF46.1 10 rfl).trans (e_at0))), (e410), ((hF409.1 15 rfl).trans ((hF46.1 15 rfl).trans (e_op0))), ((hF409.1 31 rfl).trans ((hF46.1 31 rfl).trans (e_nd))), ((hF409.1 11 rfl).trans ((hF46.1 11 rfl).trans (e_tk0))), by omega, by omega, by omega, by omega, by omega, by omega, by first | exact Or.inl (⟨by omega, by omega, by omega⟩) | exact Or.inr ((⟨by omega, by omega, by omega⟩))⟩
                    · have _q := h404
                      exact absurd h404 (by omega)
              · have _q := h70
                exact absurd h70 (by omega)
        · have _q := h38
          refine jx_ld (pc' := 52) (l' := L3) (st' := [.ref 66]) rfl (jl_aloadn gL3_0) ?_
          refine jx_ar (pc' := 53) (st' := [.int (i32 (4)), .ref 66]) rfl rfl rfl rfl ?_
          refine jx_ld (pc' := 54) (l' := L3) (st' := [.ref 66, .int (i32 (4)), .ref 66]) rfl (jl_aloadn gL3_0) ?_
          have b415 : (-3000 : Int) ≤ G 12 ∧ G 12 ≤ 3002 := hW.1 12
          refine jr_get (pc' := 57) (i := 12) (v := .int (i32 (G 12))) rfl rfl (by decide) rfl rfl ?_
          refine jx_vr (pc' := 60) (as := [.int (i32 (4)), .int (i32 (G 12))]) (st := []) rfl rfl rfl rfl ⟨rfl, rfl, Nat.le_of_ble_eq_true rfl⟩ rfl rfl (c_fail (dd := d) (hd := by omega) (hW := hW) (kind := 4) (place := G 12) (fk := fk) (e_fk := show G 16 = fk from (e_fk))  (h_kind := by omega) (h_place := by omega)  (p_0 := by omega) (p_1 := by omega)) (fun o V' hq => ?_)
          obtain ⟨G416, A417, fk2_418, rfl, rfl, hW419, hF420, e421, p422, -⟩ := hq
          have hF424 := Fr_tr hF0 hF420 (Fr_sub (by decide)) (Fr_sub (by decide))
          have bfk2_418 : (0 : Int) ≤ fk2_418 ∧ fk2_418 ≤ 6 := e421 ▸ hW419.1 16
          refine .inl ⟨rfl, ?_⟩
          refine jx_go (tg := 172) rfl rfl ?_
          refine jx_ld (pc' := 173) (l' := L3) (st' := [.ref 66]) rfl (jl_aloadn gL3_0) ?_
          refine jx_ar (pc' := 175) (st' := [.int (i32 (7)), .ref 66]) rfl rfl rfl rfl ?_
          refine jx_ld (pc' := 176) (l' := L3) (st' := [.int (i32 (0)), .int (i32 (7)), .ref 66]) rfl (jl_iloadn gL3_3) ?_
          refine jx_ld (pc' := 177) (l' := L3) (st' := [.int (i32 (pa)), .int (i32 (0)), .int (i32 (7)), .ref 66]) rfl (jl_iloadn gL3_1) ?_
          refine jx_ar (pc' := 178) (st' := [.int (i32 (0)), .int (i32 (pa)), .int (i32 (0)), .int (i32 (7)), .ref 66]) rfl rfl rfl rfl ?_
          refine jx_ar (pc' := 179) (st' := [.int (i32 (0)), .int (i32 (0)), .int (i32 (pa)), .int (i32 (0)), .int (i32 (7)), .ref 66]) rfl rfl rfl rfl ?_
          refine jx_vr (pc' := 182) (as := [.int (i32 (7)), .int (i32 (0)), .int (i32 (pa)), .int (i32 (0)), .int (i32 (0))]) (st := []) rfl rfl rfl rfl ⟨rfl, rfl, Nat.le_of_ble_eq_true rfl⟩ rfl rfl (c_node (dd := d) (hd := by omega) (hW := hW419) (kind := 7) (a := 0) (b := pa) (c := 0) (e := 0) (nd := nd) (e_nd := show G416 31 = nd from ((hF420.1 31 rfl).trans (e_nd)))  (h_kind := by omega) (h_a := by omega) (h_b := by omega) (h_c := by omega) (h_e := by omega)  (p_0 := by omega) (p_1 := by omega)) (fun o V' hq => ?_)
          obtain ⟨G425, A426, r427, nd2_428, rfl, rfl, hW429, hF430, b431, e432, p433, p434, -⟩ := hq
          have hF436 := Fr_tr hF424 hF430 (Fr_sub (by decide)) (Fr_sub (by decide))
          have bnd2_428 : (0 : Int) ≤ nd2_428 ∧ nd2_428 ≤ 6999 := e432 ▸ hW429.1 31
          refine .inr ⟨_, rfl, ?_⟩
          refine jx_rt (v := some (.int (i32 (r427)))) rfl rfl rfl rfl rfl rfl ?_
          have z437 := tz_f (tk0)
          exact ⟨_, _, _, at0, fk2_418, op0, nd2_428, tk0, rfl, rfl, hW429, hF436, by omega, ((hF430.1 10 rfl).trans ((hF420.1 10 rfl).trans (e_at0))), ((hF430.1 16 rfl).trans (e421)), ((hF430.1 15 rfl).trans ((hF420.1 15 rfl).trans (e_op0))), (e432), ((hF430.1 11 rfl).trans ((hF420.1 11 rfl).trans (e_tk0))), by omega, by omega, by omega, by omega, by omega, by omega, by first | exact Or.inl (⟨by omega, by omega, by omega⟩) | exact Or.inr ((⟨by omega, by omega, by omega⟩))⟩
      · have _q := h36
        refine jx_ld (pc' := 36) (l' := L3) (st' := [.ref 66]) rfl (jl_aloadn gL3_0) ?_
        refine jx_vr (pc' := 39) (as := []) (st := []) rfl rfl rfl rfl ⟨rfl, rfl, Nat.le_of_ble_eq_true rfl⟩ rfl rfl (RE_all X 9 (dd := d) (hd := by omega) (hW := hW)  (ln := ln) (e_ln := show G 9 = ln from (e_ln)) (le := le) (e_le := show A 4 (ln).toNat = le from (e_le)) (at0 := at0) (e_at0 := show G 10 = at0 from (e_at0)) (fk := fk) (e_fk := show G 16 = fk from (e_fk)) (op0 := op0) (e_op0 := show G 15 = op0 from (e_op0)) (nd := nd) (e_nd := show G 31 = nd from (e_nd)) (tk0 := tk0) (e_tk0 := show G 11 = tk0 from (e_tk0))    (p_0 := by omega) (p_1 := by omega) (p_2 := by omega) (p_3 := by omega) (p_4 := by omega) (p_5 := by omega)) (fun o V' hq => ?_)
        obtain ⟨G438, A439, r440, at2_441, fk2_442, op2_443, nd2_444, tk2_445, rfl, rfl, hW446, hF447, b448, e449, e450, e451, e452, e453, p454, p455, p456, p457, p458, p459, q460⟩ := hq
        have hF461 := Fr_tr hF0 hF447 (Fr_sub (by decide)) (Fr_sub (by decide))
        have bat2_441 : (0 : Int) ≤ at2_441 ∧ at2_441 ≤ 3002 := e449 ▸ hW446.1 10
        have bfk2_442 : (0 : Int) ≤ fk2_442 ∧ fk2_442 ≤ 6 := e450 ▸ hW446.1 16
        have bop2_443 : (-2147483648 : Int) ≤ op2_443 ∧ op2_443 ≤ 2147483647 := e451 ▸ hW446.1 15
        have bnd2_444 : (0 : Int) ≤ nd2_444 ∧ nd2_444 ≤ 6999 := e452 ▸ hW446.1 31
        have ztk2_445 := tz_b tk2_445
        have btk2_445 : (0 : Int) ≤ tk2_445 ∧ tk2_445 ≤ 5 := e453 ▸ hW446.1 11
        refine .inr ⟨_, rfl, ?_⟩
        rcases q460 with ⟨a462, a463, a464, a465, a466, a467⟩ | ⟨a468, a469, a470⟩ | ⟨a471, a472, a473⟩
        · have _q : True := trivial
          exfalso
          omega
        · have _q : True := trivial
          refine jx_ld (pc' := 40) (l' := jSto1 L3 3 (.int (i32 (r440)))) (st' := []) rfl rfl ?_
          obtain ⟨L474, eL474⟩ : ∃ q, q = jSto1 L3 3 (.int (i32 (r440))) := ⟨_, rfl⟩
          rw [← eL474]
          have gL474_0 : jGet L474 0 = some (.ref 66) := eL474 ▸ jg_ne (by decide) gL3_0 rfl
          have gL474_1 : jGet L474 1 = some (.int (i32 (pa))) := eL474 ▸ jg_ne (by decide) gL3_1 rfl
          have gL474_2 : jGet L474 2 = some (.int (i32 (A 7 (pa).toNat))) := eL474 ▸ jg_ne (by decide) gL3_2 rfl
          have gL474_3 : jGet L474 3 = some (.int (i32 (r440))) := eL474 ▸ jg_eq
          refine jx_go (tg := 172) rfl rfl ?_
          refine jx_ld (pc' := 173) (l' := L474) (st' := [.ref 66]) rfl (jl_aloadn gL474_0) ?_
          refine jx_ar (pc' := 175) (st' := [.int (i32 (7)), .ref 66]) rfl rfl rfl rfl ?_
          refine jx_ld (pc' := 176) (l' := L474) (st' := [.int (i32 (r440)), .int (i32 (7)), .ref 66]) rfl (jl_iloadn gL474_3) ?_
          refine jx_ld (pc' := 177) (l' := L474) (st' := [.int (i32 (pa)), .int (i32 (r440)), .int (i32 (7)), .ref 66]) rfl (jl_iloadn gL474_1) ?_
          refine jx_ar (pc' := 178) (st' := [.int (i32 (0)), .int (i32 (pa)), .int (i32 (r440)), .int (i32 (7)), .ref 66]) rfl rfl rfl rfl ?_
          refine jx_ar (pc' := 179) (st' := [.int (i32 (0)), .int (i32 (0)), .int (i32 (pa)), .int (i32 (r440)), .int (i32 (7)), .ref 66]) rfl rfl rfl rfl ?_
          refine jx_vr (pc' := 182) (as := [.int (i32 (7)), .int (i32 (r440)), .int (i32 (pa)), .int (i32 (0)), .int (i32 (0))]) (st := []) rfl rfl rfl rfl ⟨rfl, rfl, Nat.le_of_ble_eq_true rfl⟩ rfl rfl (c_node (dd := d) (hd := by omega) (hW := hW446) (kind := 7) (a := r440) (b := pa) (c := 0) (e := 0) (nd := nd2_444) (e_nd := show G438 31 = nd2_444 from (e452))  (h_kind := by omega) (h_a := by omega) (h_b := by omega) (h_c := by omega) (h_e := by omega)  (p_0 := by omega) (p_1 := by omega)) (fun o V' hq => ?_)
          obtain ⟨G475, A476, r477, nd2_478, rfl, rfl, hW479, hF480, b481, e482, p483, p484, -⟩ := hq
          have hF486 := Fr_tr hF461 hF480 (Fr_sub (by decide)) (Fr_sub (by decide))
          have bnd2_478 : (0 : Int) ≤ nd2_478 ∧ nd2_478 ≤ 6999 := e482 ▸ hW479.1 31
          refine .inr ⟨_, rfl, ?_⟩
          refine jx_rt (v := some (.int (i32 (r477)))) rfl rfl rfl rfl rfl rfl ?_
          have z487 := tz_f (tk2_445)
          exact ⟨_, _, _, at2_441, fk2_442, op2_443, nd2_478, tk2_445, rfl, rfl, hW479, hF486, by omega, ((hF480.1 10 rfl).trans (e449)), ((hF480.1 16 rfl).trans (e450)), ((hF480.1 15 rfl).trans (e451)), (e482), ((hF480.1 11 rfl).trans (e453)), by omega, by omega, by omega, by omega, by omega, by omega, by first | exact Or.inl (⟨by omega, by omega, by omega⟩) | exact Or.inr ((⟨by omega, by omega, by omega⟩))⟩
        · have _q : True := trivial
          refine jx_ld (pc' := 40) (l' := jSto1 L3 3 (.int (i32 (r440)))) (st' := []) rfl rfl ?_
          obtain ⟨L488, eL488⟩ : ∃ q, q = jSto1 L3 3 (.int (i32 (r440))) := ⟨_, rfl⟩
          rw [← eL488]
          have gL488_0 : jGet L488 0 = some (.ref 66) := eL488 ▸ jg_ne (by decide) gL3_0 rfl
          have gL488_1 : jGet L488 1 = some (.int (i32 (pa))) := eL488 ▸ jg_ne (by decide) gL3_1 rfl
          have gL488_2 : jGet L488 2 = some (.int (i32 (A 7 (pa).toNat))) := eL488 ▸ jg_ne (by decide) gL3_2 rfl
          have gL488_3 : jGet L488 3 = some (.int (i32 (r440))) := eL488 ▸ jg_eq
          refine jx_go (tg := 172) rfl rfl ?_
          refine jx_ld (pc' := 173) (l' := L488) (st' := [.ref 66]) rfl (jl_aloadn gL488_0) ?_
          refine jx_ar (pc' := 175) (st' := [.int (i32 (7)), .ref 66]) rfl rfl rfl rfl ?_
          refine jx_ld (pc' := 176) (l' := L488) (st' := [.int (i32 (r440)), .int (i32 (7)), .ref 66]) rfl (jl_iloadn gL488_3) ?_
          refine jx_ld (pc' := 177) (l' := L488) (st' := [.int (i32 (pa)), .int (i32 (r440)), .int (i32 (7)), .ref 66]) rfl (jl_iloadn gL488_1) ?_
          refine jx_ar (pc' := 178) (st' := [.int (i32 (0)), .int (i32 (pa)), .int (i32 (r440)), .int (i32 (7)), .ref 66]) rfl rfl rfl rfl ?_
          refine jx_ar (pc' := 179) (st' := [.int (i32 (0)), .int (i32 (0)), .int (i32 (pa)), .int (i32 (r440)), .int (i32 (7)), .ref 66]) rfl rfl rfl rfl ?_
          refine jx_vr (pc' := 182) (as := [.int (i32 (7)), .int (i32 (r440)), .int (i32 (pa)), .int (i32 (0)), .int (i32 (0))]) (st := []) rfl rfl rfl rfl ⟨rfl, rfl, Nat.le_of_ble_eq_true rfl⟩ rfl rfl (c_node (dd := d) (hd := by omega) (hW := hW446) (kind := 7) (a := r440) (b := pa) (c := 0) (e := 0) (nd := nd2_444) (e_nd := show G438 31 = nd2_444 from (e452))  (h_kind := by omega) (h_a := by omega) (h_b := by omega) (h_c := by omega) (h_e := by omega)  (p_0 := by omega) (p_1 := by omega)) (fun o V' hq => ?_)
          obtain ⟨G489, A490, r491, nd2_492, rfl, rfl, hW493, hF494, b495, e496, p497, p498, -⟩ := hq
          have hF500 := Fr_tr hF461 hF494 (Fr_sub (by decide)) (Fr_sub (by decide))
          have bnd2_492 : (0 : Int) ≤ nd2_492 ∧ nd2_492 ≤ 6999 := e496 ▸ hW493.1 31
          refine .inr ⟨_, rfl, ?_⟩
          refine jx_rt (v := some (.int (i32 (r491)))) rfl rfl rfl rfl rfl rfl ?_
          have z501 := tz_f (tk2_445)
          exact ⟨_, _, _, at2_441, fk2_442, op2_443, nd2_492, tk2_445, rfl, rfl, hW493, hF500, by omega, ((hF494.1 10 rfl).trans (e449)), ((hF494.1 16 rfl).trans (e450)), ((hF494.1 15 rfl).trans (e451)), (e496), ((hF494.1 11 rfl).trans (e453)), by omega, by omega, by omega, by omega, by omega, by omega, by first | exact Or.inl (⟨by omega, by omega, by omega⟩) | exact Or.inr ((⟨by omega, by omega, by omega⟩))⟩
    · have _q := h35
      exact absurd h35 (by omega)
set_option maxRecDepth 20000 in
set_option maxHeartbeats 4000000 in
theorem c_readCall {X : jX} {dd : Nat} {c0 c1 : jC} {G : Nat → Int} {A : Nat → Nat → Int} {T : jH} {s : Int} {ln le at0 fk op0 nd tk0 li : Int} (hd : 71 ≤ dd) (hW : Wk G A) (e_ln : G 9 = ln) (e_le : A 4 (ln).toNat = le) (e_at0 : G 10 = at0) (e_fk : G 16 = fk) (e_op0 : G 15 = op0) (e_nd : G 31 = nd) (e_tk0 : G 11 = tk0) (e_li : G 3 = li) (h_s : (-2147483648 : Int) ≤ s ∧ s ≤ 2147483647) (p_0 : 0 ≤ op0 ∧ op0 ≤ 8) (p_1 : fk = 0) (p_2 : nd ≤ 2 * at0 - tz tk0 + 42) (p_3 : at0 ≤ le) (p_4 : ln < li) (p_5 : 0 ≤ s ∧ s ≤ 201) (p_6 : 1 ≤ tk0) : wk X dd 305 [.ref 66, .int (i32 s)] (rV c0 c1 G A T) (fun o V' => ∃ (G' : Nat → Int) (A' : Nat → Nat → Int) (r : Int) (at2 : Int) (fk2 : Int) (nd2 : Int) (ln2 : Int), V' = rV c0 c1 G' A' T ∧ o = .inl (some (.int (i32 r))) ∧ Wk G' A' ∧ Fr [9, 10, 11, 12, 13, 14, 15, 16, 17, 18, 31] [15, 16, 17, 18, 19, 20, 21, 22, 24, 28] G A G' A' ∧ ((-2147483648 : Int) ≤ r ∧ r ≤ 2147483647) ∧ G' 10 = at2 ∧ G' 16 = fk2 ∧ G' 31 = nd2 ∧ G' 9 = ln2 ∧ (at0 ≤ at2) ∧ (at2 ≤ le) ∧ (nd ≤ nd2) ∧ (0 ≤ r) ∧ (r ≤ nd2) ∧ (((1 ≤ fk2) ∧ (ln2 = ln) ∧ (nd2 - nd ≤ 2 * at2 - 2 * at0 + 8)) ∨ ((fk2 = 0) ∧ (ln2 = ln + 1) ∧ (nd2 - nd ≤ 2 * at2 - (2 * at0 - tz tk0) + 0)))) := by
  obtain ⟨d, rfl⟩ : ∃ d, dd = d + 1 := ⟨dd - 1, by omega⟩
  refine wk_of (e := jm305) rfl (Nat.le_of_ble_eq_true rfl) ?_
  show wj X d jm305 (0, [(0, .ref 66), (1, .int (i32 (s)))], [], rV c0 c1 G A T) _
  have hF0 : Fr [9, 10, 11, 12, 13, 14, 15, 16, 17, 18, 31] [15, 16, 17, 18, 19, 20, 21, 22, 24, 28] G A G A := Fr_rf
  have b_ln : (0 : Int) ≤ ln ∧ ln ≤ 3000 := e_ln ▸ hW.1 9
  have b_le : (0 : Int) ≤ le ∧ le ≤ 3000 := e_le ▸ hW.2 4 _
  have b_at0 : (0 : Int) ≤ at0 ∧ at0 ≤ 3002 := e_at0 ▸ hW.1 10
  have b_fk : (0 : Int) ≤ fk ∧ fk ≤ 6 := e_fk ▸ hW.1 16
  have b_op0 : (-2147483648 : Int) ≤ op0 ∧ op0 ≤ 2147483647 := e_op0 ▸ hW.1 15
  have b_nd : (0 : Int) ≤ nd ∧ nd ≤ 6999 := e_nd ▸ hW.1 31
  have z_tk0 := tz_f tk0
  have b_tk0 : (0 : Int) ≤ tk0 ∧ tk0 ≤ 5 := e_tk0 ▸ hW.1 11
  have b_li : (0 : Int) ≤ li ∧ li ≤ 3000 := e_li ▸ hW.1 3
  have at_88 : ∀ (m : Nat) (L : jL) (Gx : Nat → Int) (Ax : Nat → Nat → Int) (n many last kk at1 tk1 fk1 nd1 op1 : Int), (many - kk).toNat = m → jGet L 0 = some (.ref 66) → jGet L 1 = some (.int (i32 (s))) → jGet L 2 = some (.int (i32 n)) → jGet L 3 = some (.int (i32 many)) → jGet L 4 = some (.int (i32 last)) → jGet L 5 = some (.int (i32 kk)) → Wk Gx Ax → Fr [9, 10, 11, 12, 13, 14, 15, 16, 17, 18, 31] [15, 16, 17, 18, 19, 20, 21, 22, 24, 28] G A Gx Ax → Gx 10 = at1 → Gx 11 = tk1 → Gx 16 = fk1 → Gx 31 = nd1 → Gx 15 = op1 → Gx 9 = ln → ((-2147483648 : Int) ≤ n ∧ n ≤ 2147483647) → ((-2147483648 : Int) ≤ many ∧ many ≤ 2147483647) → ((-2147483648 : Int) ≤ last ∧ last ≤ 2147483647) → ((-2147483648 : Int) ≤ kk ∧ kk ≤ 2147483647) → (at0 ≤ at1) → (at1 ≤ le) → (0 ≤ n ∧ n ≤ 6998) → (nd ≤ nd1 ∧ n ≤ nd1) → (0 ≤ many ∧ many ≤ 6) → (0 ≤ last ∧ last ≤ 6998) → (0 ≤ kk ∧ kk ≤ many) → (0 ≤ op1 ∧ op1 ≤ 9) → (1 ≤ fk1 ∨ op1 ≤ 8) → (nd1 - nd ≤ (2 * at1 - tz tk1) - (2 * at0 - tz tk0) + 4) → (1 ≤ fk1 ∨ nd1 - nd ≤ (2 * at1 - tz tk1) - (2 * at0 - tz tk0) + 1) → (1 ≤ fk1 ∨ kk = many ∨ nd1 - nd ≤ (2 * at1 - tz tk1) - (2 * at0 - tz tk0)) → wj X d jm305 (88, L, [], rV c0 c1 Gx Ax T) (fun o V' => ∃ (G' : Nat → Int) (A' : Nat → Nat → Int) (r : Int) (at2 : Int) (fk2 : Int) (nd2 : Int) (ln2 : Int), V' = rV c0 c1 G' A' T ∧ o = .inl (some (.int (i32 r))) ∧ Wk G' A' ∧ Fr [9, 10, 11, 12, 13, 14, 15, 16, 17, 18, 31] [15, 16, 17, 18, 19, 20, 21, 22, 24, 28] G A G' A' ∧ ((-2147483648 : Int) ≤ r ∧ r ≤ 2147483647) ∧ G' 10 = at2 ∧ G' 16 = fk2 ∧ G' 31 = nd2 ∧ G' 9 = ln2 ∧ (at0 ≤ at2) ∧ (at2 ≤ le) ∧ (nd ≤ nd2) ∧ (0 ≤ r) ∧ (r ≤ nd2) ∧ (((1 ≤ fk2) ∧ (ln2 = ln) ∧ (nd2 - nd ≤ 2 * at2 - 2 * at0 + 8)) ∨ ((fk2 = 0) ∧ (ln2 = ln + 1) ∧ (nd2 - nd ≤ 2 * at2 - (2 * at0 - tz tk0) + 0)))) := by
    intro m
    induction m using Nat.strongRecOn with
    | ind m ih88 =>
      intro L Gx Ax n many last kk at1 tk1 fk1 nd1 op1 hm gL_0 gL_1 gL_2 gL_3 gL_4 gL_5 hWx hFx ex_at1 ex_tk1 ex_fk1 ex_nd1 ex_op1 fx_9 rx_n rx_many rx_last rx_kk iv_0 iv_1 iv_2 iv_3 iv_4 iv_5 iv_6 iv_7 iv_8 iv_9 iv_10 iv_11
      have b_at1 : (0 : Int) ≤ at1 ∧ at1 ≤ 3002 := ex_at1 ▸ hWx.1 10
      have z_tk1 := tz_f tk1
      have b_tk1 : (0 : Int) ≤ tk1 ∧ tk1 ≤ 5 := ex_tk1 ▸ hWx.1 11
      have b_fk1 : (0 : Int) ≤ fk1 ∧ fk1 ≤ 6 := ex_fk1 ▸ hWx.1 16
      have b_nd1 : (0 : Int) ≤ nd1 ∧ nd1 ≤ 6999 := ex_nd1 ▸ hWx.1 31
      have b_op1 : (-2147483648 : Int) ≤ op1 ∧ op1 ≤ 2147483647 := ex_op1 ▸ hWx.1 15
      refine jx_ld (pc' := 89) (l' := L) (st' := [.ref 66]) rfl (jl_aloadn gL_0) ?_
      refine jx_vr (pc' := 92) (as := []) (st := []) rfl rfl rfl rfl ⟨rfl, rfl, Nat.le_of_ble_eq_true rfl⟩ rfl rfl (c_bad (dd := d) (hd := by omega) (hW := hWx)  (fk := fk1) (e_fk := show Gx 16 = fk1 from (ex_fk1))    ) (fun o V' hq => ?_)
      obtain ⟨r1, rfl, rfl, b2, q3⟩ := hq
      refine .inr ⟨_, rfl, ?_⟩
      rcases q3 with ⟨rfl, a4⟩ | ⟨rfl, a5⟩
      · have _q : True := trivial
        refine jx_if_ne (pc' := 95) (tg := 233) rfl rfl rfl (by omega) (by omega) (fun h6 => ?_) (fun h6 => ?_)
        · have _q := h6
          refine jx_ld (pc' := 234) (l' := L) (st' := [.ref 66]) rfl (jl_aloadn gL_0) ?_
          refine jx_ld (pc' := 235) (l' := L) (st' := [.ref 66, .ref 66]) rfl (jl_aloadn gL_0) ?_
          refine jx_ar (pc' := 237) (st' := [.int (i32 (41)), .ref 66, .ref 66]) rfl rfl rfl rfl ?_
          have b7 : (-2147483648 : Int) ≤ Gx 13 ∧ Gx 13 ≤ 2147483647 := hWx.1 13
          refine jx_vr (pc' := 240) (as := [.int (i32 (41))]) (st := [.ref 66]) rfl rfl rfl rfl ⟨rfl, rfl, Nat.le_of_ble_eq_true rfl⟩ rfl rfl (c_is (dd := d) (hd := by omega) (hW := hWx) (k := 41) (tk := tk1) (e_tk := show Gx 11 = tk1 from (ex_tk1)) (tn := Gx 13) (e_tn := show Gx 13 = Gx 13 from rfl)  (h_k := by omega)  ) (fun o V' hq => ?_)
          obtain ⟨r8, rfl, rfl, b9, q10⟩ := hq
          refine .inr ⟨_, rfl, ?_⟩
          rcases q10 with ⟨rfl, a11, a12, a13⟩ | rfl
          · have _q : True := trivial
            refine jx_vr (pc' := 243) (as := [.int (i32 (1))]) (st := []) rfl rfl rfl rfl ⟨rfl, rfl, Nat.le_of_ble_eq_true rfl⟩ rfl rfl (c_need (dd := d) (hd := by omega) (hW := hWx) (g := 1) (ln := ln) (e_ln := show Gx 9 = ln from (fx_9)) (le := le) (e_le := show Ax 4 (ln).toNat = le from (congrFun (hFx.2 4 rfl) _).trans (e_le)) (at0 := at1) (e_at0 := show Gx 10 = at1 from (ex_at1)) (fk := fk1) (e_fk := show Gx 16 = fk1 from (ex_fk1)) (tk0 := tk1) (e_tk0 := show Gx 11 = tk1 from (ex_tk1))  (h_g := by omega)  (p_0 := by omega)) (fun o V' hq => ?_)
            obtain ⟨G14, A15, at2_16, tk2_17, fk2_18, rfl, rfl, hW19, hF20, e21, e22, e23, p24, p25, q26⟩ := hq
            have hF27 := Fr_tr hFx hF20 (Fr_sub (by decide)) (Fr_sub (by decide))
            have bat2_16 : (0 : Int) ≤ at2_16 ∧ at2_16 ≤ 3002 := e21 ▸ hW19.1 10
            have ztk2_17 := tz_b tk2_17
            have btk2_17 : (0 : Int) ≤ tk2_17 ∧ tk2_17 ≤ 5 := e22 ▸ hW19.1 11
            have bfk2_18 : (0 : Int) ≤ fk2_18 ∧ fk2_18 ≤ 6 := e23 ▸ hW19.1 16
            refine .inl ⟨rfl, ?_⟩
            rcases q26 with ⟨a28, a29, a30, a31⟩ | ⟨a32, a33, a34, a35⟩
            · have _q : True := trivial
              refine jx_ld (pc' := 244) (l' := L) (st' := [.ref 66]) rfl (jl_aloadn gL_0) ?_
              refine jx_ar (pc' := 245) (st' := [.ref 66, .ref 66]) rfl rfl rfl rfl ?_
              refine jr_get (pc' := 248) (i := 15) (v := .int (i32 (op1))) rfl rfl (by decide) (rFv_eq (by decide) (show G14 15 = op1 from ((hF20.1 15 rfl).trans (ex_op1)))) rfl ?_
              refine jx_ar (pc' := 249) (st' := [.int (i32 (1)), .int (i32 (op1)), .ref 66]) rfl rfl rfl rfl ?_
              refine jx_sub (pc' := 250) rfl rfl ?_
              refine jr_put (pc' := 253) (i := 15) (z := (op1 - 1)) rfl rfl (by decide) rfl rfl rfl rfl rfl rfl ?_
              have hW36 : Wk (uG G14 15 ((op1 - 1))) A15 := Wk_g hW19 (show (-2147483648 : Int) ≤ (op1 - 1) by omega) (show (op1 - 1) ≤ (2147483647 : Int) by omega)
              have hF37 := Fr_g (z := (op1 - 1)) (i := 15) hF27 (by decide)
              refine jx_ld (pc' := 254) (l' := L) (st' := [.ref 66]) rfl (jl_aloadn gL_0) ?_
              refine jx_vr (pc' := 257) (as := []) (st := []) rfl rfl rfl rfl ⟨rfl, rfl, Nat.le_of_ble_eq_true rfl⟩ rfl rfl (c_endLine (dd := d) (hd := by omega) (hW := hW36)  (ln := ln) (e_ln := show (uG G14 15 ((op1 - 1))) 9 = ln from ((hF20.1 9 rfl).trans (fx_9))) (li := li) (e_li := show (uG G14 15 ((op1 - 1))) 3 = li from ((hF20.1 3 rfl).trans ((hFx.1 3 rfl).trans (e_li)))) (fk := fk2_18) (e_fk := show (uG G14 15 ((op1 - 1))) 16 = fk2_18 from (e23)) (tk0 := tk2_17) (e_tk0 := show (uG G14 15 ((op1 - 1))) 11 = tk2_17 from (e22))    (p_0 := by omega)) (fun o V' hq => ?_)
              obtain ⟨G38, A39, ln2_40, fk2_41, rfl, rfl, hW42, hF43, e44, e45, q46⟩ := hq
              have hF47 := Fr_tr hF37 hF43 (Fr_sub (by decide)) (Fr_sub (by decide))
              have bln2_40 : (0 : Int) ≤ ln2_40 ∧ ln2_40 ≤ 3000 := e44 ▸ hW42.1 9
              have bfk2_41 : (0 : Int) ≤ fk2_41 ∧ fk2_41 ≤ 6 := e45 ▸ hW42.1 16
              refine .inl ⟨rfl, ?_⟩
              rcases q46 with ⟨a48, a49, a50, a51, a52⟩ | ⟨a53, a54⟩
              · have _q : True := trivial
                exfalso
                omega
              · have _q : True := trivial
                refine jx_ld (pc' := 258) (l' := L) (st' := [.int (i32 (n))]) rfl (jl_iloadn gL_2) ?_
                refine jx_rt (v := some (.int (i32 (n)))) rfl rfl rfl rfl rfl rfl ?_
                exact ⟨_, _, _, at2_16, fk2_41, nd1, ln2_40, rfl, rfl, hW42, hF47, by omega, ((hF43.1 10 rfl).trans (e21)), (e45), ((hF43.1 31 rfl).trans ((hF20.1 31 rfl).trans (ex_nd1))), (e44), by omega, by omega, by omega, by omega, by omega, by first | exact Or.inl (⟨by omega, by omega, by omega⟩) | exact Or.inr ((⟨by omega, by omega, by omega⟩))⟩
            · have _q : True := trivial
              exfalso
              omega
          · have _q : True := trivial
            refine jx_vr (pc' := 243) (as := [.int (i32 (0))]) (st := []) rfl rfl rfl rfl ⟨rfl, rfl, Nat.le_of_ble_eq_true rfl⟩ rfl rfl (c_need (dd := d) (hd := by omega) (hW := hWx) (g := 0) (ln := ln) (e_ln := show Gx 9 = ln from (fx_9)) (le := le) (e_le := show Ax 4 (ln).toNat = le from (congrFun (hFx.2 4 rfl) _).trans (e_le)) (at0 := at1) (e_at0 := show Gx 10 = at1 from (ex_at1)) (fk := fk1) (e_fk := show Gx 16 = fk1 from (ex_fk1)) (tk0 := tk1) (e_tk0 := show Gx 11 = tk1 from (ex_tk1))  (h_g := by omega)  (p_0 := by omega)) (fun o V' hq => ?_)
            obtain ⟨G55, A56, at2_57, tk2_58, fk2_59, rfl, rfl, hW60, hF61, e62, e63, e64, p65, p66, q67⟩ := hq
            have hF68 := Fr_tr hFx hF61 (Fr_sub (by decide)) (Fr_sub (by decide))
            have bat2_57 : (0 : Int) ≤ at2_57 ∧ at2_57 ≤ 3002 := e62 ▸ hW60.1 10
            have ztk2_58 := tz_b tk2_58
            have btk2_58 : (0 : Int) ≤ tk2_58 ∧ tk2_58 ≤ 5 := e63 ▸ hW60.1 11
            have bfk2_59 : (0 : Int) ≤ fk2_59 ∧ fk2_59 ≤ 6 := e64 ▸ hW60.1 16
            refine .inl ⟨rfl, ?_⟩
            rcases q67 with ⟨a69, a70, a71, a72⟩ | ⟨a73, a74, a75, a76⟩
            · have _q : True := trivial
              refine jx_ld (pc' := 244) (l' := L) (st' := [.ref 66]) rfl (jl_aloadn gL_0) ?_
              refine jx_ar (pc' := 245) (st' := [.ref 66, .ref 66]) rfl rfl rfl rfl ?_
              refine jr_get (pc' := 248) (i := 15) (v := .int (i32 (op1))) rfl rfl (by decide) (rFv_eq (by decide) (show G55 15 = op1 from ((hF61.1 15 rfl).trans (ex_op1)))) rfl ?_
              refine jx_ar (pc' := 249) (st' := [.int (i32 (1)), .int (i32 (op1)), .ref 66]) rfl rfl rfl rfl ?_
              refine jx_sub (pc' := 250) rfl rfl ?_
              refine jr_put (pc' := 253) (i := 15) (z := (op1 - 1)) rfl rfl (by decide) rfl rfl rfl rfl rfl rfl ?_
              have hW77 : Wk (uG G55 15 ((op1 - 1))) A56 := Wk_g hW60 (show (-2147483648 : Int) ≤ (op1 - 1) by omega) (show (op1 - 1) ≤ (2147483647 : Int) by omega)
              have hF78 := Fr_g (z := (op1 - 1)) (i := 15) hF68 (by decide)
              refine jx_ld (pc' := 254) (l' := L) (st' := [.ref 66]) rfl (jl_aloadn gL_0) ?_
              refine jx_vr (pc' := 257) (as := []) (st := []) rfl rfl rfl rfl ⟨rfl, rfl, Nat.le_of_ble_eq_true rfl⟩ rfl rfl (c_endLine (dd := d) (hd := by omega) (hW := hW77)  (ln := ln) (e_ln := show (uG G55 15 ((op1 - 1))) 9 = ln from ((hF61.1 9 rfl).trans (fx_9))) (li := li) (e_li := show (uG G55 15 ((op1 - 1))) 3 = li from ((hF61.1 3 rfl).trans ((hFx.1 3 rfl).trans (e_li)))) (fk := fk2_59) (e_fk := show (uG G55 15 ((op1 - 1))) 16 = fk2_59 from (e64)) (tk0 := tk2_58) (e_tk0 := show (uG G55 15 ((op1 - 1))) 11 = tk2_58 from (e63))    (p_0 := by omega)) (fun o V' hq => ?_)
              obtain ⟨G79, A80, ln2_81, fk2_82, rfl, rfl, hW83, hF84, e85, e86, q87⟩ := hq
              have hF88 := Fr_tr hF78 hF84 (Fr_sub (by decide)) (Fr_sub (by decide))
              have bln2_81 : (0 : Int) ≤ ln2_81 ∧ ln2_81 ≤ 3000 := e85 ▸ hW83.1 9
              have bfk2_82 : (0 : Int) ≤ fk2_82 ∧ fk2_82 ≤ 6 := e86 ▸ hW83.1 16
              refine .inl ⟨rfl, ?_⟩
              rcases q87 with ⟨a89, a90, a91, a92, a93⟩ | ⟨a94, a95⟩
              · have _q : True := trivial
                exfalso
                omega
              · have _q : True := trivial
                refine jx_ld (pc' := 258) (l' := L) (st' := [.int (i32 (n))]) rfl (jl_iloadn gL_2) ?_
                refine jx_rt (v := some (.int (i32 (n)))) rfl rfl rfl rfl rfl rfl ?_
                exact ⟨_, _, _, at2_57, fk2_82, nd1, ln2_81, rfl, rfl, hW83, hF88, by omega, ((hF84.1 10 rfl).trans (e62)), (e86), ((hF84.1 31 rfl).trans ((hF61.1 31 rfl).trans (ex_nd1))), (e85), by omega, by omega, by omega, by omega, by omega, by first | exact Or.inl (⟨by omega, by omega, by omega⟩) | exact Or.inr ((⟨by omega, by omega, by omega⟩))⟩
            · have _q : True := trivial
              exfalso
              omega
        · have _q := h6
          exact absurd h6 (by omega)
      · have _q : True := trivial
        refine jx_if_ne (pc' := 95) (tg := 233) rfl rfl rfl (by omega) (by omega) (fun h96 => ?_) (fun h96 => ?_)
        · have _q := h96
          exact absurd h96 (by omega)
        · have _q := h96
          refine jx_ld (pc' := 97) (l' := L) (st' := [.int (i32 (kk))]) rfl (jl_iload gL_5) ?_
          refine jx_ld (pc' := 98) (l' := L) (st' := [.int (i32 (many)), .int (i32 (kk))]) rfl (jl_iloadn gL_3) ?_
          refine jx_icmp_ge (pc' := 101) (tg := 233) rfl rfl rfl (by omega) (by omega) (by omega) (by omega) (fun h97 => ?_) (fun h97 => ?_)
          · have _q := h97
            refine jx_ld (pc' := 234) (l' := L) (st' := [.ref 66]) rfl (jl_aloadn gL_0) ?_
            refine jx_ld (pc' := 235) (l' := L) (st' := [.ref 66, .ref 66]) rfl (jl_aloadn gL_0) ?_
            refine jx_ar (pc' := 237) (st' := [.int (i32 (41)), .ref 66, .ref 66]) rfl rfl rfl rfl ?_
            have b98 : (-2147483648 : Int) ≤ Gx 13 ∧ Gx 13 ≤ 2147483647 := hWx.1 13
            refine jx_vr (pc' := 240) (as := [.int (i32 (41))]) (st := [.ref 66]) rfl rfl rfl rfl ⟨rfl, rfl, Nat.le_of_ble_eq_true rfl⟩ rfl rfl (c_is (dd := d) (hd := by omega) (hW := hWx) (k := 41) (tk := tk1) (e_tk := show Gx 11 = tk1 from (ex_tk1)) (tn := Gx 13) (e_tn := show Gx 13 = Gx 13 from rfl)  (h_k := by omega)  ) (fun o V' hq => ?_)
            obtain ⟨r99, rfl, rfl, b100, q101⟩ := hq
            refine .inr ⟨_, rfl, ?_⟩
            rcases q101 with ⟨rfl, a102, a103, a104⟩ | rfl
            · have _q : True := trivial
              refine jx_vr (pc' := 243) (as := [.int (i32 (1))]) (st := []) rfl rfl rfl rfl ⟨rfl, rfl, Nat.le_of_ble_eq_true rfl⟩ rfl rfl (c_need (dd := d) (hd := by omega) (hW := hWx) (g := 1) (ln := ln) (e_ln := show Gx 9 = ln from (fx_9)) (le := le) (e_le := show Ax 4 (ln).toNat = le from (congrFun (hFx.2 4 rfl) _).trans (e_le)) (at0 := at1) (e_at0 := show Gx 10 = at1 from (ex_at1)) (fk := fk1) (e_fk := show Gx 16 = fk1 from (ex_fk1)) (tk0 := tk1) (e_tk0 := show Gx 11 = tk1 from (ex_tk1))  (h_g := by omega)  (p_0 := by omega)) (fun o V' hq => ?_)
              obtain ⟨G105, A106, at2_107, tk2_108, fk2_109, rfl, rfl, hW110, hF111, e112, e113, e114, p115, p116, q117⟩ := hq
              have hF118 := Fr_tr hFx hF111 (Fr_sub (by decide)) (Fr_sub (by decide))
              have bat2_107 : (0 : Int) ≤ at2_107 ∧ at2_107 ≤ 3002 := e112 ▸ hW110.1 10
              have ztk2_108 := tz_b tk2_108
              have btk2_108 : (0 : Int) ≤ tk2_108 ∧ tk2_108 ≤ 5 := e113 ▸ hW110.1 11
              have bfk2_109 : (0 : Int) ≤ fk2_109 ∧ fk2_109 ≤ 6 := e114 ▸ hW110.1 16
              refine .inl ⟨rfl, ?_⟩
              rcases q117 with ⟨a119, a120, a121, a122⟩ | ⟨a123, a124, a125, a126⟩
              · have _q : True := trivial
                refine jx_ld (pc' := 244) (l' := L) (st' := [.ref 66]) rfl (jl_aloadn gL_0) ?_
                refine jx_ar (pc' := 245) (st' := [.ref 66, .ref 66]) rfl rfl rfl rfl ?_
                refine jr_get (pc' := 248) (i := 15) (v := .int (i32 (op1))) rfl rfl (by decide) (rFv_eq (by decide) (show G105 15 = op1 from ((hF111.1 15 rfl).trans (ex_op1)))) rfl ?_
                refine jx_ar (pc' := 249) (st' := [.int (i32 (1)), .int (i32 (op1)), .ref 66]) rfl rfl rfl rfl ?_
                refine jx_sub (pc' := 250) rfl rfl ?_
                refine jr_put (pc' := 253) (i := 15) (z := (op1 - 1)) rfl rfl (by decide) rfl rfl rfl rfl rfl rfl ?_
                have hW127 : Wk (uG G105 15 ((op1 - 1))) A106 := Wk_g hW110 (show (-2147483648 : Int) ≤ (op1 - 1) by omega) (show (op1 - 1) ≤ (2147483647 : Int) by omega)
                have hF128 := Fr_g (z := (op1 - 1)) (i := 15) hF118 (by decide)
                refine jx_ld (pc' := 254) (l' := L) (st' := [.ref 66]) rfl (jl_aloadn gL_0) ?_
                refine jx_vr (pc' := 257) (as := []) (st := []) rfl rfl rfl rfl ⟨rfl, rfl, Nat.le_of_ble_eq_true rfl⟩ rfl rfl (c_endLine (dd := d) (hd := by omega) (hW := hW127)  (ln := ln) (e_ln := show (uG G105 15 ((op1 - 1))) 9 = ln from ((hF111.1 9 rfl).trans (fx_9))) (li := li) (e_li := show (uG G105 15 ((op1 - 1))) 3 = li from ((hF111.1 3 rfl).trans ((hFx.1 3 rfl).trans (e_li)))) (fk := fk2_109) (e_fk := show (uG G105 15 ((op1 - 1))) 16 = fk2_109 from (e114)) (tk0 := tk2_108) (e_tk0 := show (uG G105 15 ((op1 - 1))) 11 = tk2_108 from (e113))    (p_0 := by omega)) (fun o V' hq => ?_)
                obtain ⟨G129, A130, ln2_131, fk2_132, rfl, rfl, hW133, hF134, e135, e136, q137⟩ := hq
                have hF138 := Fr_tr hF128 hF134 (Fr_sub (by decide)) (Fr_sub (by decide))
                have bln2_131 : (0 : Int) ≤ ln2_131 ∧ ln2_131 ≤ 3000 := e135 ▸ hW133.1 9
                have bfk2_132 : (0 : Int) ≤ fk2_132 ∧ fk2_132 ≤ 6 := e136 ▸ hW133.1 16
                refine .inl ⟨rfl, ?_⟩
                rcases q137 with ⟨a139, a140, a141, a142, a143⟩ | ⟨a144, a145⟩
                · have _q : True := trivial
                  exfalso
                  omega
                · have _q : True := trivial
                  refine jx_ld (pc' := 258) (l' := L) (st' := [.int (i32 (n))]) rfl (jl_iloadn gL_2) ?_
                  refine jx_rt (v := some (.int (i32 (n)))) rfl rfl rfl rfl rfl rfl ?_
                  exact ⟨_, _, _, at2_107, fk2_132, nd1, ln2_131, rfl, rfl, hW133, hF138, by omega, ((hF134.1 10 rfl).trans (e112)), (e136), ((hF134.1 31 rfl).trans ((hF111.1 31 rfl).trans (ex_nd1))), (e135), by omega, by omega, by omega, by omega, by omega, by first | exact Or.inl (⟨by omega, by omega, by omega⟩) | exact Or.inr ((⟨by omega, by omega, by omega⟩))⟩
              · have _q : True := trivial
                refine jx_ld (pc' := 244) (l' := L) (st' := [.ref 66]) rfl (jl_aloadn gL_0) ?_
                refine jx_ar (pc' := 245) (st' := [.ref 66, .ref 66]) rfl rfl rfl rfl ?_
                refine jr_get (pc' := 248) (i := 15) (v := .int (i32 (op1))) rfl rfl (by decide) (rFv_eq (by decide) (show G105 15 = op1 from ((hF111.1 15 rfl).trans (ex_op1)))) rfl ?_
                refine jx_ar (pc' := 249) (st' := [.int (i32 (1)), .int (i32 (op1)), .ref 66]) rfl rfl rfl rfl ?_
                refine jx_sub (pc' := 250) rfl rfl ?_
                refine jr_put (pc' := 253) (i := 15) (z := (op1 - 1)) rfl rfl (by decide) rfl rfl rfl rfl rfl rfl ?_
                have hW146 : Wk (uG G105 15 ((op1 - 1))) A106 := Wk_g hW110 (show (-2147483648 : Int) ≤ (op1 - 1) by omega) (show (op1 - 1) ≤ (2147483647 : Int) by omega)
                have hF147 := Fr_g (z := (op1 - 1)) (i := 15) hF118 (by decide)
                refine jx_ld (pc' := 254) (l' := L) (st' := [.ref 66]) rfl (jl_aloadn gL_0) ?_
                refine jx_vr (pc' := 257) (as := []) (st := []) rfl rfl rfl rfl ⟨rfl, rfl, Nat.le_of_ble_eq_true rfl⟩ rfl rfl (c_endLine (dd := d) (hd := by omega) (hW := hW146)  (ln := ln) (e_ln := show (uG G105 15 ((op1 - 1))) 9 = ln from ((hF111.1 9 rfl).trans (fx_9))) (li := li) (e_li := show (uG G105 15 ((op1 - 1))) 3 = li from ((hF111.1 3 rfl).trans ((hFx.1 3 rfl).trans (e_li)))) (fk := fk2_109) (e_fk := show (uG G105 15 ((op1 - 1))) 16 = fk2_109 from (e114)) (tk0 := tk2_108) (e_tk0 := show (uG G105 15 ((op1 - 1))) 11 = tk2_108 from (e113))    (p_0 := by omega)) (fun o V' hq => ?_)
                obtain ⟨G148, A149, ln2_150, fk2_151, rfl, rfl, hW152, hF153, e154, e155, q156⟩ := hq
                have hF157 := Fr_tr hF147 hF153 (Fr_sub (by decide)) (Fr_sub (by decide))
                have bln2_150 : (0 : Int) ≤ ln2_150 ∧ ln2_150 ≤ 3000 := e154 ▸ hW152.1 9
                have bfk2_151 : (0 : Int) ≤ fk2_151 ∧ fk2_151 ≤ 6 := e155 ▸ hW152.1 16
                refine .inl ⟨rfl, ?_⟩
                rcases q156 with ⟨a158, a159, a160, a161, a162⟩ | ⟨a163, a164⟩
                · have _q : True := trivial
                  refine jx_ld (pc' := 258) (l' := L) (st' := [.int (i32 (n))]) rfl (jl_iloadn gL_2) ?_
                  refine jx_rt (v := some (.int (i32 (n)))) rfl rfl rfl rfl rfl rfl ?_
                  exact ⟨_, _, _, at2_107, fk2_151, nd1, ln2_150, rfl, rfl, hW152, hF157, by omega, ((hF153.1 10 rfl).trans (e112)), (e155), ((hF153.1 31 rfl).trans ((hF111.1 31 rfl).trans (ex_nd1))), (e154), by omega, by omega, by omega, by omega, by omega, by first | exact Or.inl (⟨by omega, by omega, by omega⟩) | exact Or.inr ((⟨by omega, by omega, by omega⟩))⟩
                · have _q : True := trivial
                  refine jx_ld (pc' := 258) (l' := L) (st' := [.int (i32 (n))]) rfl (jl_iloadn gL_2) ?_
                  refine jx_rt (v := some (.int (i32 (n)))) rfl rfl rfl rfl rfl rfl ?_
                  exact ⟨_, _, _, at2_107, fk2_151, nd1, ln2_150, rfl, rfl, hW152, hF157, by omega, ((hF153.1 10 rfl).trans (e112)), (e155), ((hF153.1 31 rfl).trans ((hF111.1 31 rfl).trans (ex_nd1))), (e154), by omega, by omega, by omega, by omega, by omega, by first | exact Or.inl (⟨by omega, by omega, by omega⟩) | exact Or.inr ((⟨by omega, by omega, by omega⟩))⟩
            · have _q : True := trivial
              refine jx_vr (pc' := 243) (as := [.int (i32 (0))]) (st := []) rfl rfl rfl rfl ⟨rfl, rfl, Nat.le_of_ble_eq_true rfl⟩ rfl rfl (c_need (dd := d) (hd := by omega) (hW := hWx) (g := 0) (ln := ln) (e_ln := show Gx 9 = ln from (fx_9)) (le := le) (e_le := show Ax 4 (ln).toNat = le from (congrFun (hFx.2 4 rfl) _).trans (e_le)) (at0 := at1) (e_at0 := show Gx 10 = at1 from (ex_at1)) (fk := fk1) (e_fk := show Gx 16 = fk1 from (ex_fk1)) (tk0 := tk1) (e_tk0 := show Gx 11 = tk1 from (ex_tk1))  (h_g := by omega)  (p_0 := by omega)) (fun o V' hq => ?_)
              obtain ⟨G165, A166, at2_167, tk2_168, fk2_169, rfl, rfl, hW170, hF171, e172, e173, e174, p175, p176, q177⟩ := hq
              have hF178 := Fr_tr hFx hF171 (Fr_sub (by decide)) (Fr_sub (by decide))
              have bat2_167 : (0 : Int) ≤ at2_167 ∧ at2_167 ≤ 3002 := e172 ▸ hW170.1 10
              have ztk2_168 := tz_b tk2_168
              have btk2_168 : (0 : Int) ≤ tk2_168 ∧ tk2_168 ≤ 5 := e173 ▸ hW170.1 11
              have bfk2_169 : (0 : Int) ≤ fk2_169 ∧ fk2_169 ≤ 6 := e174 ▸ hW170.1 16
              refine .inl ⟨rfl, ?_⟩
              rcases q177 with ⟨a179, a180, a181, a182⟩ | ⟨a183, a184, a185, a186⟩
              · have _q : True := trivial
                refine jx_ld (pc' := 244) (l' := L) (st' := [.ref 66]) rfl (jl_aloadn gL_0) ?_
                refine jx_ar (pc' := 245) (st' := [.ref 66, .ref 66]) rfl rfl rfl rfl ?_
                refine jr_get (pc' := 248) (i := 15) (v := .int (i32 (op1))) rfl rfl (by decide) (rFv_eq (by decide) (show G165 15 = op1 from ((hF171.1 15 rfl).trans (ex_op1)))) rfl ?_
                refine jx_ar (pc' := 249) (st' := [.int (i32 (1)), .int (i32 (op1)), .ref 66]) rfl rfl rfl rfl ?_
                refine jx_sub (pc' := 250) rfl rfl ?_
                refine jr_put (pc' := 253) (i := 15) (z := (op1 - 1)) rfl rfl (by decide) rfl rfl rfl rfl rfl rfl ?_
                have hW187 : Wk (uG G165 15 ((op1 - 1))) A166 := Wk_g hW170 (show (-2147483648 : Int) ≤ (op1 - 1) by omega) (show (op1 - 1) ≤ (2147483647 : Int) by omega)
                have hF188 := Fr_g (z := (op1 - 1)) (i := 15) hF178 (by decide)
                refine jx_ld (pc' := 254) (l' := L) (st' := [.ref 66]) rfl (jl_aloadn gL_0) ?_
                refine jx_vr (pc' := 257) (as := []) (st := []) rfl rfl rfl rfl ⟨rfl, rfl, Nat.le_of_ble_eq_true rfl⟩ rfl rfl (c_endLine (dd := d) (hd := by omega) (hW := hW187)  (ln := ln) (e_ln := show (uG G165 15 ((op1 - 1))) 9 = ln from ((hF171.1 9 rfl).trans (fx_9))) (li := li) (e_li := show (uG G165 15 ((op1 - 1))) 3 = li from ((hF171.1 3 rfl).trans ((hFx.1 3 rfl).trans (e_li)))) (fk := fk2_169) (e_fk := show (uG G165 15 ((op1 - 1))) 16 = fk2_169 from (e174)) (tk0 := tk2_168) (e_tk0 := show (uG G165 15 ((op1 - 1))) 11 = tk2_168 from (e173))    (p_0 := by omega)) (fun o V' hq => ?_)
                obtain ⟨G189, A190, ln2_191, fk2_192, rfl, rfl, hW193, hF194, e195, e196, q197⟩ := hq
                have hF198 := Fr_tr hF188 hF194 (Fr_sub (by decide)) (Fr_sub (by decide))
                have bln2_191 : (0 : Int) ≤ ln2_191 ∧ ln2_191 ≤ 3000 := e195 ▸ hW193.1 9
                have bfk2_192 : (0 : Int) ≤ fk2_192 ∧ fk2_192 ≤ 6 := e196 ▸ hW193.1 16
                refine .inl ⟨rfl, ?_⟩
                rcases q197 with ⟨a199, a200, a201, a202, a203⟩ | ⟨a204, a205⟩
                · have _q : True := trivial
                  exfalso
                  omega
                · have _q : True := trivial
                  refine jx_ld (pc' := 258) (l' := L) (st' := [.int (i32 (n))]) rfl (jl_iloadn gL_2) ?_
                  refine jx_rt (v := some (.int (i32 (n)))) rfl rfl rfl rfl rfl rfl ?_
                  exact ⟨_, _, _, at2_167, fk2_192, nd1, ln2_191, rfl, rfl, hW193, hF198, by omega, ((hF194.1 10 rfl).trans (e172)), (e196), ((hF194.1 31 rfl).trans ((hF171.1 31 rfl).trans (ex_nd1))), (e195), by omega, by omega, by omega, by omega, by omega, by first | exact Or.inl (⟨by omega, by omega, by omega⟩) | exact Or.inr ((⟨by omega, by omega, by omega⟩))⟩
              · have _q : True := trivial
                exfalso
                omega
          · have _q := h97
            refine jx_ld (pc' := 102) (l' := L) (st' := [.ref 66]) rfl (jl_aloadn gL_0) ?_
            refine jx_ld (pc' := 103) (l' := L) (st' := [.ref 66, .ref 66]) rfl (jl_aloadn gL_0) ?_
            refine jr_get (pc' := 106) (i := 47) (v := .ref 96) rfl rfl (by decide) rfl rfl ?_
            refine jx_ld (pc' := 107) (l' := L) (st' := [.ref 66, .ref 96, .ref 66]) rfl (jl_aloadn gL_0) ?_
            refine jr_get (pc' := 110) (i := 26) (v := .ref 79) rfl rfl (by decide) rfl rfl ?_
            refine jx_ld (pc' := 111) (l' := L) (st' := [.int (i32 (s)), .ref 79, .ref 96, .ref 66]) rfl (jl_iloadn gL_1) ?_
            have b206 : (0 : Int) ≤ A 12 (s).toNat ∧ A 12 (s).toNat ≤ 24 := hW.2 12 _
            refine jr_ldv (pc' := 112) (i := 12) (m := 260) (z := s) (y := A 12 (s).toNat) rfl (by decide) rfl (by decide) (by omega) (by omega) rfl (show Ax 12 (s).toNat = A 12 (s).toNat from (congrFun (hFx.2 12 rfl) _)) ?_
            have b207 : (0 : Int) ≤ A 29 (A 12 (s).toNat).toNat ∧ A 29 (A 12 (s).toNat).toNat ≤ 202 := hW.2 29 _
            refine jr_ldv (pc' := 113) (i := 29) (m := 25) (z := A 12 (s).toNat) (y := A 29 (A 12 (s).toNat).toNat) rfl (by decide) rfl (by decide) (by omega) (by omega) rfl (show Ax 29 (A 12 (s).toNat).toNat = A 29 (A 12 (s).toNat).toNat from (congrFun (hFx.2 29 rfl) _)) ?_
            refine jx_ld (pc' := 115) (l' := L) (st' := [.int (i32 (kk)), .int (i32 (A 29 (A 12 (s).toNat).toNat)), .ref 66]) rfl (jl_iload gL_5) ?_
            refine jx_add (pc' := 116) rfl rfl ?_
            refine jx_vr (pc' := 119) (as := [.int (i32 ((A 29 (A 12 (s).toNat).toNat + kk)))]) (st := []) rfl rfl rfl rfl ⟨rfl, rfl, Nat.le_of_ble_eq_true rfl⟩ rfl rfl (c_readArgument (dd := d) (hd := by omega) (hW := hWx) (pa := (A 29 (A 12 (s).toNat).toNat + kk)) (ln := ln) (e_ln := show Gx 9 = ln from (fx_9)) (le := le) (e_le := show Ax 4 (ln).toNat = le from (congrFun (hFx.2 4 rfl) _).trans (e_le)) (at0 := at1) (e_at0 := show Gx 10 = at1 from (ex_at1)) (fk := fk1) (e_fk := show Gx 16 = fk1 from (ex_fk1)) (op0 := op1) (e_op0 := show Gx 15 = op1 from (ex_op1)) (nd := nd1) (e_nd := show Gx 31 = nd1 from (ex_nd1)) (tk0 := tk1) (e_tk0 := show Gx 11 = tk1 from (ex_tk1))  (h_pa := by omega)  (p_0 := by omega) (p_1 := by omega) (p_2 := by omega) (p_3 := by omega) (p_4 := by omega) (p_5 := by omega) (p_6 := by omega) (p_7 := by omega)) (fun o V' hq => ?_)
            obtain ⟨G208, A209, r210, at2_211, fk2_212, op2_213, nd2_214, tk2_215, rfl, rfl, hW216, hF217, b218, e219, e220, e221, e222, e223, p224, p225, p226, p227, p228, p229, q230⟩ := hq
            have hF231 := Fr_tr hFx hF217 (Fr_sub (by decide)) (Fr_sub (by decide))
            have bat2_211 : (0 : Int) ≤ at2_211 ∧ at2_211 ≤ 3002 := e219 ▸ hW216.1 10
            have bfk2_212 : (0 : Int) ≤ fk2_212 ∧ fk2_212 ≤ 6 := e220 ▸ hW216.1 16
            have bop2_213 : (-2147483648 : Int) ≤ op2_213 ∧ op2_213 ≤ 2147483647 := e221 ▸ hW216.1 15
            have bnd2_214 : (0 : Int) ≤ nd2_214 ∧ nd2_214 ≤ 6999 := e222 ▸ hW216.1 31
            have ztk2_215 := tz_b tk2_215
            have btk2_215 : (0 : Int) ≤ tk2_215 ∧ tk2_215 ≤ 5 := e223 ▸ hW216.1 11
            refine .inr ⟨_, rfl, ?_⟩
            rcases q230 with ⟨a232, a233, a234⟩ | ⟨a235, a236, a237⟩
            · have _q : True := trivial
              refine jx_ld (pc' := 121) (l' := jSto1 L 6 (.int (i32 (r210)))) (st' := []) rfl rfl ?_
              obtain ⟨L238, eL238⟩ : ∃ q, q = jSto1 L 6 (.int (i32 (r210))) := ⟨_, rfl⟩
              rw [← eL238]
              have gL238_0 : jGet L238 0 = some (.ref 66) := eL238 ▸ jg_ne (by decide) gL_0 rfl
              have gL238_1 : jGet L238 1 = some (.int (i32 (s))) := eL238 ▸ jg_ne (by decide) gL_1 rfl
              have gL238_2 : jGet L238 2 = some (.int (i32 (n))) := eL238 ▸ jg_ne (by decide) gL_2 rfl
              have gL238_3 : jGet L238 3 = some (.int (i32 (many))) := eL238 ▸ jg_ne (by decide) gL_3 rfl
              have gL238_4 : jGet L238 4 = some (.int (i32 (last))) := eL238 ▸ jg_ne (by decide) gL_4 rfl
              have gL238_5 : jGet L238 5 = some (.int (i32 (kk))) := eL238 ▸ jg_ne (by decide) gL_5 rfl
              have gL238_6 : jGet L238 6 = some (.int (i32 (r210))) := eL238 ▸ jg_eq
              refine jx_ld (pc' := 122) (l' := L238) (st' := [.ref 66]) rfl (jl_aloadn gL238_0) ?_
              refine jx_vr (pc' := 125) (as := []) (st := []) rfl rfl rfl rfl ⟨rfl, rfl, Nat.le_of_ble_eq_true rfl⟩ rfl rfl (c_bad (dd := d) (hd := by omega) (hW := hW216)  (fk := fk2_212) (e_fk := show G208 16 = fk2_212 from (e220))    ) (fun o V' hq => ?_)
              obtain ⟨r239, rfl, rfl, b240, q241⟩ := hq
              refine .inr ⟨_, rfl, ?_⟩
              rcases q241 with ⟨rfl, a242⟩ | ⟨rfl, a243⟩
              · have _q : True := trivial
                refine jx_if_eq (pc' := 128) (tg := 130) rfl rfl rfl (by omega) (by omega) (fun h244 => ?_) (fun h244 => ?_)
                · have _q := h244
                  exact absurd h244 (by omega)
                · have _q := h244
                  refine jx_ar (pc' := 129) (st' := [.int (i32 (0))]) rfl rfl rfl rfl ?_
                  refine jx_rt (v := some (.int (i32 (0)))) rfl rfl rfl rfl rfl rfl ?_
                  exact ⟨_, _, _, at2_211, fk2_212, nd2_214, ln, rfl, rfl, hW216, hF231, by omega, (e219), (e220), (e222), ((hF217.1 9 rfl).trans (fx_9)), by omega, by omega, by omega, by omega, by omega, by first | exact Or.inl (⟨by omega, by omega, by omega⟩) | exact Or.inr ((⟨by omega, by omega, by omega⟩))⟩
              · have _q : True := trivial
                exfalso
                omega
            · have _q : True := trivial
              refine jx_ld (pc' := 121) (l' := jSto1 L 6 (.int (i32 (r210)))) (st' := []) rfl rfl ?_
              obtain ⟨L245, eL245⟩ : ∃ q, q = jSto1 L 6 (.int (i32 (r210))) := ⟨_, rfl⟩
              rw [← eL245]
              have gL245_0 : jGet L245 0 = some (.ref 66) := eL245 ▸ jg_ne (by decide) gL_0 rfl
              have gL245_1 : jGet L245 1 = some (.int (i32 (s))) := eL245 ▸ jg_ne (by decide) gL_1 rfl
              have gL245_2 : jGet L245 2 = some (.int (i32 (n))) := eL245 ▸ jg_ne (by decide) gL_2 rfl
              have gL245_3 : jGet L245 3 = some (.int (i32 (many))) := eL245 ▸ jg_ne (by decide) gL_3 rfl
              have gL245_4 : jGet L245 4 = some (.int (i32 (last))) := eL245 ▸ jg_ne (by decide) gL_4 rfl
              have gL245_5 : jGet L245 5 = some (.int (i32 (kk))) := eL245 ▸ jg_ne (by decide) gL_5 rfl
              have gL245_6 : jGet L245 6 = some (.int (i32 (r210))) := eL245 ▸ jg_eq
              refine jx_ld (pc' := 122) (l' := L245) (st' := [.ref 66]) rfl (jl_aloadn gL245_0) ?_
              refine jx_vr (pc' := 125) (as := []) (st := []) rfl rfl rfl rfl ⟨rfl, rfl, Nat.le_of_ble_eq_true rfl⟩ rfl rfl (c_bad (dd := d) (hd := by omega) (hW := hW216)  (fk := fk2_212) (e_fk := show G208 16 = fk2_212 from (e220))    ) (fun o V' hq => ?_)
              obtain ⟨r246, rfl, rfl, b247, q248⟩ := hq
              refine .inr ⟨_, rfl, ?_⟩
              rcases q248 with ⟨rfl, a249⟩ | ⟨rfl, a250⟩
              · have _q : True := trivial
                exfalso
                omega
              · have _q : True := trivial
                refine jx_if_eq (pc' := 128) (tg := 130) rfl rfl rfl (by omega) (by omega) (fun h251 => ?_) (fun h251 => ?_)
                · have _q := h251
                  refine jx_ld (pc' := 132) (l' := L245) (st' := [.int (i32 (last))]) rfl (jl_iload gL245_4) ?_
                  refine jx_if_ne (pc' := 135) (tg := 146) rfl rfl rfl (by omega) (by omega) (fun h252 => ?_) (fun h252 => ?_)
                  · have _q := h252
                    refine jx_ld (pc' := 147) (l' := L245) (st' := [.ref 66]) rfl (jl_aloadn gL245_0) ?_
                    refine jr_get (pc' := 150) (i := 39) (v := .ref 89) rfl rfl (by decide) rfl rfl ?_
                    refine jx_ld (pc' := 152) (l' := L245) (st' := [.int (i32 (last)), .ref 89]) rfl (jl_iload gL245_4) ?_
                    refine jx_ld (pc' := 154) (l' := L245) (st' := [.int (i32 (r210)), .int (i32 (last)), .ref 89]) rfl (jl_iload gL245_6) ?_
                    refine jr_st (pc' := 155) (i := 22) (m := 7000) (z := last) (y := r210) rfl (by decide) rfl (by decide) (by omega) (by omega) rfl ?_
                    have hW254 : Wk G208 (uA A209 22 (last).toNat (r210)) := Wk_a hW216 (show (-2147483648 : Int) ≤ r210 by omega) (show r210 ≤ (2147483647 : Int) by omega)
                    have hF255 := Fr_a (z := r210) (k := 22) (n := (last).toNat) hF231 (by decide)
                    obtain ⟨A253, eA253⟩ : ∃ q, q = uA A209 22 (last).toNat (r210) := ⟨_, rfl⟩
                    rw [← eA253]
                    rw [← eA253] at hW254 hF255
                    have q256 : A253 22 (last).toNat = r210 := by rw [eA253]; exact uA_eq
                    refine jx_ld (pc' := 157) (l' := L245) (st' := [.int (i32 (r210))]) rfl (jl_iload gL245_6) ?_
                    refine jx_ld (pc' := 159) (l' := jSto1 L245 4 (.int (i32 (r210)))) (st' := []) rfl rfl ?_
                    obtain ⟨L257, eL257⟩ : ∃ q, q = jSto1 L245 4 (.int (i32 (r210))) := ⟨_, rfl⟩
                    rw [← eL257]
                    have gL257_0 : jGet L257 0 = some (.ref 66) := eL257 ▸ jg_ne (by decide) gL245_0 rfl
                    have gL257_1 : jGet L257 1 = some (.int (i32 (s))) := eL257 ▸ jg_ne (by decide) gL245_1 rfl
                    have gL257_2 : jGet L257 2 = some (.int (i32 (n))) := eL257 ▸ jg_ne (by decide) gL245_2 rfl
                    have gL257_3 : jGet L257 3 = some (.int (i32 (many))) := eL257 ▸ jg_ne (by decide) gL245_3 rfl
                    have gL257_5 : jGet L257 5 = some (.int (i32 (kk))) := eL257 ▸ jg_ne (by decide) gL245_5 rfl
                    have gL257_6 : jGet L257 6 = some (.int (i32 (r210))) := eL257 ▸ jg_ne (by decide) gL245_6 rfl
                    have gL257_4 : jGet L257 4 = some (.int (i32 (r210))) := eL257 ▸ jg_eq
                    refine jx_inc (pc' := 162) (l' := jSto1 L257 5 (.int (i32 ((kk + (1)))))) (x := kk) rfl gL257_5 (by decide) rfl rfl ?_
                    obtain ⟨L258, eL258⟩ : ∃ q, q = jSto1 L257 5 (.int (i32 ((kk + (1))))) := ⟨_, rfl⟩
                    rw [← eL258]
                    have gL258_0 : jGet L258 0 = some (.ref 66) := eL258 ▸ jg_ne (by decide) gL257_0 rfl
                    have gL258_1 : jGet L258 1 = some (.int (i32 (s))) := eL258 ▸ jg_ne (by decide) gL257_1 rfl
                    have gL258_2 : jGet L258 2 = some (.int (i32 (n))) := eL258 ▸ jg_ne (by decide) gL257_2 rfl
                    have gL258_3 : jGet L258 3 = some (.int (i32 (many))) := eL258 ▸ jg_ne (by decide) gL257_3 rfl
                    have gL258_6 : jGet L258 6 = some (.int (i32 (r210))) := eL258 ▸ jg_ne (by decide) gL257_6 rfl
                    have gL258_4 : jGet L258 4 = some (.int (i32 (r210))) := eL258 ▸ jg_ne (by decide) gL257_4 rfl
                    have gL258_5 : jGet L258 5 = some (.int (i32 ((kk + (1))))) := eL258 ▸ jg_eq
                    refine jx_ld (pc' := 163) (l' := L258) (st' := [.ref 66]) rfl (jl_aloadn gL258_0) ?_
                    refine jx_ar (pc' := 165) (st' := [.int (i32 (44)), .ref 66]) rfl rfl rfl rfl ?_
                    have b259 : (-2147483648 : Int) ≤ G208 13 ∧ G208 13 ≤ 2147483647 := hW216.1 13
                    refine jx_vr (pc' := 168) (as := [.int (i32 (44))]) (st := []) rfl rfl rfl rfl ⟨rfl, rfl, Nat.le_of_ble_eq_true rfl⟩ rfl rfl (c_is (dd := d) (hd := by omega) (hW := hW254) (k := 44) (tk := tk2_215) (e_tk := show G208 11 = tk2_215 from (e223)) (tn := G208 13) (e_tn := show G208 13 = G208 13 from rfl)  (h_k := by omega)  ) (fun o V' hq => ?_)
                    obtain ⟨r260, rfl, rfl, b261, q262⟩ := hq
                    refine .inr ⟨_, rfl, ?_⟩
                    rcases q262 with ⟨rfl, a263, a264, a265⟩ | rfl
                    · have _q : True := trivial
                      refine jx_if_eq (pc' := 171) (tg := 194) rfl rfl rfl (by omega) (by omega) (fun h266 => ?_) (fun h266 => ?_)
                      · have _q := h266
                        exact absurd h266 (by omega)
                      · have _q := h266
                        refine jx_ld (pc' := 173) (l' := L258) (st' := [.int (i32 ((kk + (1))))]) rfl (jl_iload gL258_5) ?_
                        refine jx_ld (pc' := 174) (l' := L258) (st' := [.int (i32 (many)), .int (i32 ((kk + (1))))]) rfl (jl_iloadn gL258_3) ?_
                        refine jx_icmp_ne (pc' := 177) (tg := 186) rfl rfl rfl (by omega) (by omega) (by omega) (by omega) (fun h267 => ?_) (fun h267 => ?_)
                        · have _q := h267
                          refine jx_ld (pc' := 187) (l' := L258) (st' := [.ref 66]) rfl (jl_aloadn gL258_0) ?_
                          refine jx_ar (pc' := 188) (st' := [.int (i32 (1)), .ref 66]) rfl rfl rfl rfl ?_
                          refine jx_vr (pc' := 191) (as := [.int (i32 (1))]) (st := []) rfl rfl rfl rfl ⟨rfl, rfl, Nat.le_of_ble_eq_true rfl⟩ rfl rfl (c_need (dd := d) (hd := by omega) (hW := hW254) (g := 1) (ln := ln) (e_ln := show G208 9 = ln from ((hF217.1 9 rfl).trans (fx_9))) (le := le) (e_le := show A253 4 (ln).toNat = le from (congrFun (((congrFun eA253 4).trans (uA_ne (by decide))).trans ((hF217.2 4 rfl).trans (hFx.2 4 rfl))) _).trans (e_le)) (at0 := at2_211) (e_at0 := show G208 10 = at2_211 from (e219)) (fk := fk2_212) (e_fk := show G208 16 = fk2_212 from (e220)) (tk0 := tk2_215) (e_tk0 := show G208 11 = tk2_215 from (e223))  (h_g := by omega)  (p_0 := by omega)) (fun o V' hq => ?_)
                          obtain ⟨G268, A269, at2_270, tk2_271, fk2_272, rfl, rfl, hW273, hF274, e275, e276, e277, p278, p279, q280⟩ := hq
                          have hF281 := Fr_tr hF255 hF274 (Fr_sub (by decide)) (Fr_sub (by decide))
                          have bat2_270 : (0 : Int) ≤ at2_270 ∧ at2_270 ≤ 3002 := e275 ▸ hW273.1 10
                          have ztk2_271 := tz_b tk2_271
                          have btk2_271 : (0 : Int) ≤ tk2_271 ∧ tk2_271 ≤ 5 := e276 ▸ hW273.1 11
                          have bfk2_272 : (0 : Int) ≤ fk2_272 ∧ fk2_272 ≤ 6 := e277 ▸ hW273.1 16
                          refine .inl ⟨rfl, ?_⟩
                          rcases q280 with ⟨a282, a283, a284, a285⟩ | ⟨a286, a287, a288, a289⟩
                          · have _q : True := trivial
                            refine jx_go (tg := 230) rfl rfl ?_
                            refine jx_go (tg := 88) rfl rfl ?_
                            have z290 := tz_f (tk2_271)
                            exact ih88 _ (by omega) L258 G268 A269 (n) (many) (r210) ((kk + (1))) (at2_270) (tk2_271) (fk2_272) (nd2_214) (op2_213) rfl gL258_0 gL258_1 gL258_2 gL258_3 gL258_4 gL258_5 hW273 hF281 ((e275)) ((e276)) ((e277)) (((hF274.1 31 rfl).trans (e222))) (((hF274.1 15 rfl).trans (e221))) (((hF274.1 9 rfl).trans ((hF217.1 9 rfl).trans (fx_9)))) (by omega) (by omega) (by omega) (by omega) (by omega) (by omega) (by omega) (by omega) (by omega) (by omega) (by omega) (by omega) (by omega) (by omega) (by omega) (by omega)
                          · have _q : True := trivial
                            refine jx_go (tg := 230) rfl rfl ?_
                            refine jx_go (tg := 88) rfl rfl ?_
                            have z291 := tz_f (tk2_271)
                            exact ih88 _ (by omega) L258 G268 A269 (n) (many) (r210) ((kk + (1))) (at2_270) (tk2_271) (fk2_272) (nd2_214) (op2_213) rfl gL258_0 gL258_1 gL258_2 gL258_3 gL258_4 gL258_5 hW273 hF281 ((e275)) ((e276)) ((e277)) (((hF274.1 31 rfl).trans (e222))) (((hF274.1 15 rfl).trans (e221))) (((hF274.1 9 rfl).trans ((hF217.1 9 rfl).trans (fx_9)))) (by omega) (by omega) (by omega) (by omega) (by omega) (by omega) (by omega) (by omega) (by omega) (by omega) (by omega) (by omega) (by omega) (by omega) (by omega) (by omega)
                        · have _q := h267
                          refine jx_ld (pc' := 178) (l' := L258) (st' := [.ref 66]) rfl (jl_aloadn gL258_0) ?_
                          refine jx_ar (pc' := 179) (st' := [.int (i32 (4)), .ref 66]) rfl rfl rfl rfl ?_
                          refine jx_ld (pc' := 180) (l' := L258) (st' := [.ref 66, .int (i32 (4)), .ref 66]) rfl (jl_aloadn gL258_0) ?_
                          have b292 : (-3000 : Int) ≤ G208 12 ∧ G208 12 ≤ 3002 := hW216.1 12
                          refine jr_get (pc' := 183) (i := 12) (v := .int (i32 (G208 12))) rfl rfl (by decide) rfl rfl ?_
                          refine jx_vr (pc' := 186) (as := [.int (i32 (4)), .int (i32 (G208 12))]) (st := []) rfl rfl rfl rfl ⟨rfl, rfl, Nat.le_of_ble_eq_true rfl⟩ rfl rfl (c_fail (dd := d) (hd := by omega) (hW := hW254) (kind := 4) (place := G208 12) (fk := fk2_212) (e_fk := show G208 16 = fk2_212 from (e220))  (h_kind := by omega) (h_place := by omega)  (p_0 := by omega) (p_1 := by omega)) (fun o V' hq => ?_)
                          obtain ⟨G293, A294, fk2_295, rfl, rfl, hW296, hF297, e298, p299, -⟩ := hq
                          have hF301 := Fr_tr hF255 hF297 (Fr_sub (by decide)) (Fr_sub (by decide))
                          have bfk2_295 : (0 : Int) ≤ fk2_295 ∧ fk2_295 ≤ 6 := e298 ▸ hW296.1 16
                          refine .inl ⟨rfl, ?_⟩
                          refine jx_ld (pc' := 187) (l' := L258) (st' := [.ref 66]) rfl (jl_aloadn gL258_0) ?_
                          refine jx_ar (pc' := 188) (st' := [.int (i32 (1)), .ref 66]) rfl rfl rfl rfl ?_
                          refine jx_vr (pc' := 191) (as := [.int (i32 (1))]) (st := []) rfl rfl rfl rfl ⟨rfl, rfl, Nat.le_of_ble_eq_true rfl⟩ rfl rfl (c_need (dd := d) (hd := by omega) (hW := hW296) (g := 1) (ln := ln) (e_ln := show G293 9 = ln from ((hF297.1 9 rfl).trans ((hF217.1 9 rfl).trans (fx_9)))) (le := le) (e_le := show A294 4 (ln).toNat = le from (congrFun ((hF297.2 4 rfl).trans (((congrFun eA253 4).trans (uA_ne (by decide))).trans ((hF217.2 4 rfl).trans (hFx.2 4 rfl)))) _).trans (e_le)) (at0 := at2_211) (e_at0 := show G293 10 = at2_211 from ((hF297.1 10 rfl).trans (e219))) (fk := fk2_295) (e_fk := show G293 16 = fk2_295 from (e298)) (tk0 := tk2_215) (e_tk0 := show G293 11 = tk2_215 from ((hF297.1 11 rfl).trans (e223)))  (h_g := by omega)  (p_0 := by omega)) (fun o V' hq => ?_)
                          obtain ⟨G302, A303, at2_304, tk2_305, fk2_306, rfl, rfl, hW307, hF308, e309, e310, e311, p312, p313, q314⟩ := hq
                          have hF315 := Fr_tr hF301 hF308 (Fr_sub (by decide)) (Fr_sub (by decide))
                          have bat2_304 : (0 : Int) ≤ at2_304 ∧ at2_304 ≤ 3002 := e309 ▸ hW307.1 10
                          have ztk2_305 := tz_b tk2_305
                          have btk2_305 : (0 : Int) ≤ tk2_305 ∧ tk2_305 ≤ 5 := e310 ▸ hW307.1 11
                          have bfk2_306 : (0 : Int) ≤ fk2_306 ∧ fk2_306 ≤ 6 := e311 ▸ hW307.1 16
                          refine .inl ⟨rfl, ?_⟩
                          rcases q314 with ⟨a316, a317, a318, a319⟩ | ⟨a320, a321, a322, a323⟩
                          · have _q : True := trivial
                            refine jx_go (tg := 230) rfl rfl ?_
                            refine jx_go (tg := 88) rfl rfl ?_
                            have z324 := tz_f (tk2_305)
                            exact ih88 _ (by omega) L258 G302 A303 (n) (many) (r210) ((kk + (1))) (at2_304) (tk2_305) (fk2_306) (nd2_214) (op2_213) rfl gL258_0 gL258_1 gL258_2 gL258_3 gL258_4 gL258_5 hW307 hF315 ((e309)) ((e310)) ((e311)) (((hF308.1 31 rfl).trans ((hF297.1 31 rfl).trans (e222)))) (((hF308.1 15 rfl).trans ((hF297.1 15 rfl).trans (e221)))) (((hF308.1 9 rfl).trans ((hF297.1 9 rfl).trans ((hF217.1 9 rfl).trans (fx_9))))) (by omega) (by omega) (by omega) (by omega) (by omega) (by omega) (by omega) (by omega) (by omega) (by omega) (by omega) (by omega) (by omega) (by omega) (by omega) (by omega)
                          · have _q : True := trivial
                            exfalso
                            omega
                    · have _q : True := trivial
                      refine jx_if_eq (pc' := 171) (tg := 194) rfl rfl rfl (by omega) (by omega) (fun h325 => ?_) (fun h325 => ?_)
                      · have _q := h325
                        refine jx_ld (pc' := 195) (l' := L258) (st' := [.ref 66]) rfl (jl_aloadn gL258_0) ?_
                        refine jx_ar (pc' := 197) (st' := [.int (i32 (41)), .ref 66]) rfl rfl rfl rfl ?_
                        refine jx_vr (pc' := 200) (as := [.int (i32 (41))]) (st := []) rfl rfl rfl rfl ⟨rfl, rfl, Nat.le_of_ble_eq_true rfl⟩ rfl rfl (c_is (dd := d) (hd := by omega) (hW := hW254) (k := 41) (tk := tk2_215) (e_tk := show G208 11 = tk2_215 from (e223)) (tn := G208 13) (e_tn := show G208 13 = G208 13 from rfl)  (h_k := by omega)  ) (fun o V' hq => ?_)
                        obtain ⟨r326, rfl, rfl, b327, q328⟩ := hq
                        refine .inr ⟨_, rfl, ?_⟩
                        rcases q328 with ⟨rfl, a329, a330, a331⟩ | rfl
                        · have _q : True := trivial
                          refine jx_if_eq (pc' := 203) (tg := 221) rfl rfl rfl (by omega) (by omega) (fun h332 => ?_) (fun h332 => ?_)
                          · have _q := h332
                            exact absurd h332 (by omega)
                          · have _q := h332
                            refine jx_ld (pc' := 205) (l' := L258) (st' := [.int (i32 ((kk + (1))))]) rfl (jl_iload gL258_5) ?_
                            refine jx_ld (pc' := 206) (l' := L258) (st' := [.int (i32 (many)), .int (i32 ((kk + (1))))]) rfl (jl_iloadn gL258_3) ?_
                            refine jx_icmp_ge (pc' := 209) (tg := 230) rfl rfl rfl (by omega) (by omega) (by omega) (by omega) (fun h333 => ?_) (fun h333 => ?_)
                            · have _q := h333
                              refine jx_go (tg := 88) rfl rfl ?_
                              have z334 := tz_f (tk2_215)
                              exact ih88 _ (by omega) L258 G208 A253 (n) (many) (r210) ((kk + (1))) (at2_211) (tk2_215) (fk2_212) (nd2_214) (op2_213) rfl gL258_0 gL258_1 gL258_2 gL258_3 gL258_4 gL258_5 hW254 hF255 ((e219)) ((e223)) ((e220)) ((e222)) ((e221)) (((hF217.1 9 rfl).trans (fx_9))) (by omega) (by omega) (by omega) (by omega) (by omega) (by omega) (by omega) (by omega) (by omega) (by omega) (by omega) (by omega) (by omega) (by omega) (by omega) (by omega)
                            · have _q := h333
                              refine jx_ld (pc' := 210) (l' := L258) (st' := [.ref 66]) rfl (jl_aloadn gL258_0) ?_
                              refine jx_ar (pc' := 211) (st' := [.int (i32 (4)), .ref 66]) rfl rfl rfl rfl ?_
                              refine jx_ld (pc' := 212) (l' := L258) (st' := [.ref 66, .int (i32 (4)), .ref 66]) rfl (jl_aloadn gL258_0) ?_
                              have b335 : (-3000 : Int) ≤ G208 12 ∧ G208 12 ≤ 3002 := hW216.1 12
                              refine jr_get (pc' := 215) (i := 12) (v := .int (i32 (G208 12))) rfl rfl (by decide) rfl rfl ?_
                              refine jx_vr (pc' := 218) (as := [.int (i32 (4)), .int (i32 (G208 12))]) (st := []) rfl rfl rfl rfl ⟨rfl, rfl, Nat.le_of_ble_eq_true rfl⟩ rfl rfl (c_fail (dd := d) (hd := by omega) (hW := hW254) (kind := 4) (place := G208 12) (fk := fk2_212) (e_fk := show G208 16 = fk2_212 from (e220))  (h_kind := by omega) (h_place := by omega)  (p_0 := by omega) (p_1 := by omega)) (fun o V' hq => ?_)
                              obtain ⟨G336, A337, fk2_338, rfl, rfl, hW339, hF340, e341, p342, -⟩ := hq
                              have hF344 := Fr_tr hF255 hF340 (Fr_sub (by decide)) (Fr_sub (by decide))
                              have bfk2_338 : (0 : Int) ≤ fk2_338 ∧ fk2_338 ≤ 6 := e341 ▸ hW339.1 16
                              refine .inl ⟨rfl, ?_⟩
                              refine jx_go (tg := 230) rfl rfl ?_
                              refine jx_go (tg := 88) rfl rfl ?_
                              have z345 := tz_f (tk2_215)
                              exact ih88 _ (by omega) L258 G336 A337 (n) (many) (r210) ((kk + (1))) (at2_211) (tk2_215) (fk2_338) (nd2_214) (op2_213) rfl gL258_0 gL258_1 gL258_2 gL258_3 gL258_4 gL258_5 hW339 hF344 (((hF340.1 10 rfl).trans (e219))) (((hF340.1 11 rfl).trans (e223))) ((e341)) (((hF340.1 31 rfl).trans (e222))) (((hF340.1 15 rfl).trans (e221))) (((hF340.1 9 rfl).trans ((hF217.1 9 rfl).trans (fx_9)))) (by omega) (by omega) (by omega) (by omega) (by omega) (by omega) (by omega) (by omega) (by omega) (by omega) (by omega) (by omega) (by omega) (by omega) (by omega) (by omega)
                        · have _q : True := trivial
                          refine jx_if_eq (pc' := 203) (tg := 221) rfl rfl rfl (by omega) (by omega) (fun h346 => ?_) (fun h346 => ?_)
                          · have _q := h346
                            refine jx_ld (pc' := 222) (l' := L258) (st' := [.ref 66]) rfl (jl_aloadn gL258_0) ?_
                            refine jx_ar (pc' := 223) (st' := [.int (i32 (1)), .ref 66]) rfl rfl rfl rfl ?_
                            refine jx_ld (pc' := 224) (l' := L258) (st' := [.ref 66, .int (i32 (1)), .ref 66]) rfl (jl_aloadn gL258_0) ?_
                            have b347 : (-3000 : Int) ≤ G208 12 ∧ G208 12 ≤ 3002 := hW216.1 12
                            refine jr_get (pc' := 227) (i := 12) (v := .int (i32 (G208 12))) rfl rfl (by decide) rfl rfl ?_
                            refine jx_vr (pc' := 230) (as := [.int (i32 (1)), .int (i32 (G208 12))]) (st := []) rfl rfl rfl rfl ⟨rfl, rfl, Nat.le_of_ble_eq_true rfl⟩ rfl rfl (c_fail (dd := d) (hd := by omega) (hW := hW254) (kind := 1) (place := G208 12) (fk := fk2_212) (e_fk := show G208 16 = fk2_212 from (e220))  (h_kind := by omega) (h_place := by omega)  (p_0 := by omega) (p_1 := by omega)) (fun o V' hq => ?_)
                            obtain ⟨G348, A349, fk2_350, rfl, rfl, hW351, hF352, e353, p354, -⟩ := hq
                            have hF356 := Fr_tr hF255 hF352 (Fr_sub (by decide)) (Fr_sub (by decide))
                            have bfk2_350 : (0 : Int) ≤ fk2_350 ∧ fk2_350 ≤ 6 := e353 ▸ hW351.1 16
                            refine .inl ⟨rfl, ?_⟩
                            refine jx_go (tg := 88) rfl rfl ?_
                            have z357 := tz_f (tk2_215)
                            exact ih88 _ (by omega) L258 G348 A349 (n) (many) (r210) ((kk + (1))) (at2_211) (tk2_215) (fk2_350) (nd2_214) (op2_213) rfl gL258_0 gL258_1 gL258_2 gL258_3 gL258_4 gL258_5 hW351 hF356 (((hF352.1 10 rfl).trans (e219))) (((hF352.1 11 rfl).trans (e223))) ((e353)) (((hF352.1 31 rfl).trans (e222))) (((hF352.1 15 rfl).trans (e221))) (((hF352.1 9 rfl).trans ((hF217.1 9 rfl).trans (fx_9)))) (by omega) (by omega) (by omega) (by omega) (by omega) (by omega) (by omega) (by omega) (by omega) (by omega) (by omega) (by omega) (by omega) (by omega) (by omega) (by omega)
                          · have _q := h346
                            exact absurd h346 (by omega)
                      · have _q := h325
                        exact absurd h325 (by omega)
                  · have _q := h252
                    refine jx_ld (pc' := 136) (l' := L245) (st' := [.ref 66]) rfl (jl_aloadn gL245_0) ?_
                    refine jr_get (pc' := 139) (i := 38) (v := .ref 88) rfl rfl (by decide) rfl rfl ?_
                    refine jx_ld (pc' := 140) (l' := L245) (st' := [.int (i32 (n)), .ref 88]) rfl (jl_iloadn gL245_2) ?_
                    refine jx_ld (pc' := 142) (l' := L245) (st' := [.int (i32 (r210)), .int (i32 (n)), .ref 88]) rfl (jl_iload gL245_6) ?_
                    refine jr_st (pc' := 143) (i := 21) (m := 7000) (z := n) (y := r210) rfl (by decide) rfl (by decide) (by omega) (by omega) rfl ?_
                    have hW359 : Wk G208 (uA A209 21 (n).toNat (r210)) := Wk_a hW216 (show (-2147483648 : Int) ≤ r210 by omega) (show r210 ≤ (2147483647 : Int) by omega)
                    have hF360 := Fr_a (z := r210) (k := 21) (n := (n).toNat) hF231 (by decide)
                    obtain ⟨A358, eA358⟩ : ∃ q, q = uA A209 21 (n).toNat (r210) := ⟨_, rfl⟩
                    rw [← eA358]
                    rw [← eA358] at hW359 hF360
                    have q361 : A358 21 (n).toNat = r210 := by rw [eA358]; exact uA_eq
                    refine jx_go (tg := 155) rfl rfl ?_
                    refine jx_ld (pc' := 157) (l' := L245) (st' := [.int (i32 (r210))]) rfl (jl_iload gL245_6) ?_
                    refine jx_ld (pc' := 159) (l' := jSto1 L245 4 (.int (i32 (r210)))) (st' := []) rfl rfl ?_
                    obtain ⟨L362, eL362⟩ : ∃ q, q = jSto1 L245 4 (.int (i32 (r210))) := ⟨_, rfl⟩
                    rw [← eL362]
                    have gL362_0 : jGet L362 0 = some (.ref 66) := eL362 ▸ jg_ne (by decide) gL245_0 rfl
                    have gL362_1 : jGet L362 1 = some (.int (i32 (s))) := eL362 ▸ jg_ne (by decide) gL245_1 rfl
                    have gL362_2 : jGet L362 2 = some (.int (i32 (n))) := eL362 ▸ jg_ne (by decide) gL245_2 rfl
                    have gL362_3 : jGet L362 3 = some (.int (i32 (many))) := eL362 ▸ jg_ne (by decide) gL245_3 rfl
                    have gL362_5 : jGet L362 5 = some (.int (i32 (kk))) := eL362 ▸ jg_ne (by decide) gL245_5 rfl
                    have gL362_6 : jGet L362 6 = some (.int (i32 (r210))) := eL362 ▸ jg_ne (by decide) gL245_6 rfl
                    have gL362_4 : jGet L362 4 = some (.int (i32 (r210))) := eL362 ▸ jg_eq
                    refine jx_inc (pc' := 162) (l' := jSto1 L362 5 (.int (i32 ((kk + (1)))))) (x := kk) rfl gL362_5 (by decide) rfl rfl ?_
                    obtain ⟨L363, eL363⟩ : ∃ q, q = jSto1 L362 5 (.int (i32 ((kk + (1))))) := ⟨_, rfl⟩
                    rw [← eL363]
                    have gL363_0 : jGet L363 0 = some (.ref 66) := eL363 ▸ jg_ne (by decide) gL362_0 rfl
                    have gL363_1 : jGet L363 1 = some (.int (i32 (s))) := eL363 ▸ jg_ne (by decide) gL362_1 rfl
                    have gL363_2 : jGet L363 2 = some (.int (i32 (n))) := eL363 ▸ jg_ne (by decide) gL362_2 rfl
                    have gL363_3 : jGet L363 3 = some (.int (i32 (many))) := eL363 ▸ jg_ne (by decide) gL362_3 rfl
                    have gL363_6 : jGet L363 6 = some (.int (i32 (r210))) := eL363 ▸ jg_ne (by decide) gL362_6 rfl
                    have gL363_4 : jGet L363 4 = some (.int (i32 (r210))) := eL363 ▸ jg_ne (by decide) gL362_4 rfl
                    have gL363_5 : jGet L363 5 = some (.int (i32 ((kk + (1))))) := eL363 ▸ jg_eq
                    refine jx_ld (pc' := 163) (l' := L363) (st' := [.ref 66]) rfl (jl_aloadn gL363_0) ?_
                    refine jx_ar (pc' := 165) (st' := [.int (i32 (44)), .ref 66]) rfl rfl rfl rfl ?_
                    have b364 : (-2147483648 : Int) ≤ G208 13 ∧ G208 13 ≤ 2147483647 := hW216.1 13
                    refine jx_vr (pc' := 168) (as := [.int (i32 (44))]) (st := []) rfl rfl rfl rfl ⟨rfl, rfl, Nat.le_of_ble_eq_true rfl⟩ rfl rfl (c_is (dd := d) (hd := by omega) (hW := hW359) (k := 44) (tk := tk2_215) (e_tk := show G208 11 = tk2_215 from (e223)) (tn := G208 13) (e_tn := show G208 13 = G208 13 from rfl)  (h_k := by omega)  ) (fun o V' hq => ?_)
                    obtain ⟨r365, rfl, rfl, b366, q367⟩ := hq
                    refine .inr ⟨_, rfl, ?_⟩
                    rcases q367 with ⟨rfl, a368, a369, a370⟩ | rfl
                    · have _q : True := trivial
                      refine jx_if_eq (pc' := 171) (tg := 194) rfl rfl rfl (by omega) (by omega) (fun h371 => ?_) (fun h371 => ?_)
                      · have _q := h371
                        exact absurd h371 (by omega)
                      · have _q := h371
                        refine jx_ld (pc' := 173) (l' := L363) (st' := [.int (i32 ((kk + (1))))]) rfl (jl_iload gL363_5) ?_
                        refine jx_ld (pc' := 174) (l' := L363) (st' := [.int (i32 (many)), .int (i32 ((kk + (1))))]) rfl (jl_iloadn gL363_3) ?_
                        refine jx_icmp_ne (pc' := 177) (tg := 186) rfl rfl rfl (by omega) (by omega) (by omega) (by omega) (fun h372 => ?_) (fun h372 => ?_)
                        · have _q := h372
                          refine jx_ld (pc' := 187) (l' := L363) (st' := [.ref 66]) rfl (jl_aloadn gL363_0) ?_
                          refine jx_ar (pc' := 188) (st' := [.int (i32 (1)), .ref 66]) rfl rfl rfl rfl ?_
                          refine jx_vr (pc' := 191) (as := [.int (i32 (1))]) (st := []) rfl rfl rfl rfl ⟨rfl, rfl, Nat.le_of_ble_eq_true rfl⟩ rfl rfl (c_need (dd := d) (hd := by omega) (hW := hW359) (g := 1) (ln := ln) (e_ln := show G208 9 = ln from ((hF217.1 9 rfl).trans (fx_9))) (le := le) (e_le := show A358 4 (ln).toNat = le from (congrFun (((congrFun eA358 4).trans (uA_ne (by decide))).trans ((hF217.2 4 rfl).trans (hFx.2 4 rfl))) _).trans (e_le)) (at0 := at2_211) (e_at0 := show G208 10 = at2_211 from (e219)) (fk := fk2_212) (e_fk := show G208 16 = fk2_212 from (e220)) (tk0 := tk2_215) (e_tk0 := show G208 11 = tk2_215 from (e223))  (h_g := by omega)  (p_0 := by omega)) (fun o V' hq => ?_)
                          obtain ⟨G373, A374, at2_375, tk2_376, fk2_377, rfl, rfl, hW378, hF379, e380, e381, e382, p383, p384, q385⟩ := hq
                          have hF386 := Fr_tr hF360 hF379 (Fr_sub (by decide)) (Fr_sub (by decide))
                          have bat2_375 : (0 : Int) ≤ at2_375 ∧ at2_375 ≤ 3002 := e380 ▸ hW378.1 10
                          have ztk2_376 := tz_b tk2_376
                          have btk2_376 : (0 : Int) ≤ tk2_376 ∧ tk2_376 ≤ 5 := e381 ▸ hW378.1 11
                          have bfk2_377 : (0 : Int) ≤ fk2_377 ∧ fk2_377 ≤ 6 := e382 ▸ hW378.1 16
                          refine .inl ⟨rfl, ?_⟩
                          rcases q385 with ⟨a387, a388, a389, a390⟩ | ⟨a391, a392, a393, a394⟩
                          · have _q : True := trivial
                            refine jx_go (tg := 230) rfl rfl ?_
                            refine jx_go (tg := 88) rfl rfl ?_
                            have z395 := tz_f (tk2_376)
                            exact ih88 _ (by omega) L363 G373 A374 (n) (many) (r210) ((kk + (1))) (at2_375) (tk2_376) (fk2_377) (nd2_214) (op2_213) rfl gL363_0 gL363_1 gL363_2 gL363_3 gL363_4 gL363_5 hW378 hF386 ((e380)) ((e381)) ((e382)) (((hF379.1 31 rfl).trans (e222))) (((hF379.1 15 rfl).trans (e221))) (((hF379.1 9 rfl).trans ((hF217.1 9 rfl).trans (fx_9)))) (by omega) (by omega) (by omega) (by omega) (by omega) (by omega) (by omega) (by omega) (by omega) (by omega) (by omega) (by omega) (by omega) (by omega) (by omega) (by omega)
                          · have _q : True := trivial
                            refine jx_go (tg := 230) rfl rfl ?_
                            refine jx_go (tg := 88) rfl rfl ?_
                            have z396 := tz_f (tk2_376)
                            exact ih88 _ (by omega) L363 G373 A374 (n) (many) (r210) ((kk + (1))) (at2_375) (tk2_376) (fk2_377) (nd2_214) (op2_213) rfl gL363_0 gL363_1 gL363_2 gL363_3 gL363_4 gL363_5 hW378 hF386 ((e380)) ((e381)) ((e382)) (((hF379.1 31 rfl).trans (e222))) (((hF379.1 15 rfl).trans (e221))) (((hF379.1 9 rfl).trans ((hF217.1 9 rfl).trans (fx_9)))) (by omega) (by omega) (by omega) (by omega) (by omega) (by omega) (by omega) (by omega) (by omega) (by omega) (by omega) (by omega) (by omega) (by omega) (by omega) (by omega)
                        · have _q := h372
                          refine jx_ld (pc' := 178) (l' := L363) (st' := [.ref 66]) rfl (jl_aloadn gL363_0) ?_
                          refine jx_ar (pc' := 179) (st' := [.int (i32 (4)), .ref 66]) rfl rfl rfl rfl ?_
                          refine jx_ld (pc' := 180) (l' := L363) (st' := [.ref 66, .int (i32 (4)), .ref 66]) rfl (jl_aloadn gL363_0) ?_
                          have b397 : (-3000 : Int) ≤ G208 12 ∧ G208 12 ≤ 3002 := hW216.1 12
                          refine jr_get (pc' := 183) (i := 12) (v := .int (i32 (G208 12))) rfl rfl (by decide) rfl rfl ?_
                          refine jx_vr (pc' := 186) (as := [.int (i32 (4)), .int (i32 (G208 12))]) (st := []) rfl rfl rfl rfl ⟨rfl, rfl, Nat.le_of_ble_eq_true rfl⟩ rfl rfl (c_fail (dd := d) (hd := by omega) (hW := hW359) (kind := 4) (place := G208 12) (fk := fk2_212) (e_fk := show G208 16 = fk2_212 from (e220))  (h_kind := by omega) (h_place := by omega)  (p_0 := by omega) (p_1 := by omega)) (fun o V' hq => ?_)
                          obtain ⟨G398, A399, fk2_400, rfl, rfl, hW401, hF402, e403, p404, -⟩ := hq
                          have hF406 := Fr_tr hF360 hF402 (Fr_sub (by decide)) (Fr_sub (by decide))
                          have bfk2_400 : (0 : Int) ≤ fk2_400 ∧ fk2_400 ≤ 6 := e403 ▸ hW401.1 16
                          refine .inl ⟨rfl, ?_⟩
                          refine jx_ld (pc' := 187) (l' := L363) (st' := [.ref 66]) rfl (jl_aloadn gL363_0) ?_
                          refine jx_ar (pc' := 188) (st' := [.int (i32 (1)), .ref 66]) rfl rfl rfl rfl ?_
                          refine jx_vr (pc' := 191) (as := [.int (i32 (1))]) (st := []) rfl rfl rfl rfl ⟨rfl, rfl, Nat.le_of_ble_eq_true rfl⟩ rfl rfl (c_need (dd := d) (hd := by omega) (hW := hW401) (g := 1) (ln := ln) (e_ln := show G398 9 = ln from ((hF402.1 9 rfl).trans ((hF217.1 9 rfl).trans (fx_9)))) (le := le) (e_le := show A399 4 (ln).toNat = le from (congrFun ((hF402.2 4 rfl).trans (((congrFun eA358 4).trans (uA_ne (by decide))).trans ((hF217.2 4 rfl).trans (hFx.2 4 rfl)))) _).trans (e_le)) (at0 := at2_211) (e_at0 := show G398 10 = at2_211 from ((hF402.1 10 rfl).trans (e219))) (fk := fk2_400) (e_fk := show G398 16 = fk2_400 from (e403)) (tk0 := tk2_215) (e_tk0 := show G398 11 = tk2_215 from ((hF402.1 11 rfl).trans (e223)))  (h_g := by omega)  (p_0 := by omega)) (fun o V' hq => ?_)
                          obtain ⟨G407, A408, at2_409, tk2_410, fk2_411, rfl, rfl, hW412, hF413, e414, e415, e416, p417, p418, q419⟩ := hq
                          have hF420 := Fr_tr hF406 hF413 (Fr_sub (by decide)) (Fr_sub (by decide))
                          have bat2_409 : (0 : Int) ≤ at2_409 ∧ at2_409 ≤ 3002 := e414 ▸ hW412.1 10
                          have ztk2_410 := tz_b tk2_410
                          have btk2_410 : (0 : Int) ≤ tk2_410 ∧ tk2_410 ≤ 5 := e415 ▸ hW412.1 11
                          have bfk2_411 : (0 : Int) ≤ fk2_411 ∧ fk2_411 ≤ 6 := e416 ▸ hW412.1 16
                          refine .inl ⟨rfl, ?_⟩
                          rcases q419 with ⟨a421, a422, a423, a424⟩ | ⟨a425, a426, a427, a428⟩
                          · have _q : True := trivial
                            refine jx_go (tg := 230) rfl rfl ?_
                            refine jx_go (tg := 88) rfl rfl ?_
                            have z429 := tz_f (tk2_410)
                            exact ih88 _ (by omega) L363 G407 A408 (n) (many) (r210) ((kk + (1))) (at2_409) (tk2_410) (fk2_411) (nd2_214) (op2_213) rfl gL363_0 gL363_1 gL363_2 gL363_3 gL363_4 gL363_5 hW412 hF420 ((e414)) ((e415)) ((e416)) (((hF413.1 31 rfl).trans ((hF402.1 31 rfl).trans (e222)))) (((hF413.1 15 rfl).trans ((hF402.1 15 rfl).trans (e221)))) (((hF413.1 9 rfl).trans ((hF402.1 9 rfl).trans ((hF217.1 9 rfl).trans (fx_9))))) (by omega) (by omega) (by omega) (by omega) (by omega) (by omega) (by omega) (by omega) (by omega) (by omega) (by omega) (by omega) (by omega) (by omega) (by omega) (by omega)
                          · have _q : True := trivial
                            exfalso
                            omega
                    · have _q : True := trivial
                      refine jx_if_eq (pc' := 171) (tg := 194) rfl rfl rfl (by omega) (by omega) (fun h430 => ?_) (fun h430 => ?_)
                      · have _q := h430
                        refine jx_ld (pc' := 195) (l' := L363) (st' := [.ref 66]) rfl (jl_aloadn gL363_0) ?_
                        refine jx_ar (pc' := 197) (st' := [.int (i32 (41)), .ref 66]) rfl rfl rfl rfl ?_
                        refine jx_vr (pc' := 200) (as := [.int (i32 (41))]) (st := []) rfl rfl rfl rfl ⟨rfl, rfl, Nat.le_of_ble_eq_true rfl⟩ rfl rfl (c_is (dd := d) (hd := by omega) (hW := hW359) (k := 41) (tk := tk2_215) (e_tk := show G208 11 = tk2_215 from (e223)) (tn := G208 13) (e_tn := show G208 13 = G208 13 from rfl)  (h_k := by omega)  ) (fun o V' hq => ?_)
                        obtain ⟨r431, rfl, rfl, b432, q433⟩ := hq
                        refine .inr ⟨_, rfl, ?_⟩
                        rcases q433 with ⟨rfl, a434, a435, a436⟩ | rfl
                        · have _q : True := trivial
                          refine jx_if_eq (pc' := 203) (tg := 221) rfl rfl rfl (by omega) (by omega) (fun h437 => ?_) (fun h437 => ?_)
                          · have _q := h437
                            exact absurd h437 (by omega)
                          · have _q := h437
                            refine jx_ld (pc' := 205) (l' := L363) (st' := [.int (i32 ((kk + (1))))]) rfl (jl_iload gL363_5) ?_
                            refine jx_ld (pc' := 206) (l' := L363) (st' := [.int (i32 (many)), .int (i32 ((kk + (1))))]) rfl (jl_iloadn gL363_3) ?_
                            refine jx_icmp_ge (pc' := 209) (tg := 230) rfl rfl rfl (by omega) (by omega) (by omega) (by omega) (fun h438 => ?_) (fun h438 => ?_)
                            · have _q := h438
                              refine jx_go (tg := 88) rfl rfl ?_
                              have z439 := tz_f (tk2_215)
                              exact ih88 _ (by omega) L363 G208 A358 (n) (many) (r210) ((kk + (1))) (at2_211) (tk2_215) (fk2_212) (nd2_214) (op2_213) rfl gL363_0 gL363_1 gL363_2 gL363_3 gL363_4 gL363_5 hW359 hF360 ((e219)) ((e223)) ((e220)) ((e222)) ((e221)) (((hF217.1 9 rfl).trans (fx_9))) (by omega) (by omega) (by omega) (by omega) (by omega) (by omega) (by omega) (by omega) (by omega) (by omega) (by omega) (by omega) (by omega) (by omega) (by omega) (by omega)
                            · have _q := h438
                              refine jx_ld (pc' := 210) (l' := L363) (st' := [.ref 66]) rfl (jl_aloadn gL363_0) ?_
                              refine jx_ar (pc' := 211) (st' := [.int (i32 (4)), .ref 66]) rfl rfl rfl rfl ?_
                              refine jx_ld (pc' := 212) (l' := L363) (st' := [.ref 66, .int (i32 (4)), .ref 66]) rfl (jl_aloadn gL363_0) ?_
                              have b440 : (-3000 : Int) ≤ G208 12 ∧ G208 12 ≤ 3002 := hW216.1 12
                              refine jr_get (pc' := 215) (i := 12) (v := .int (i32 (G208 12))) rfl rfl (by decide) rfl rfl ?_
                              refine jx_vr (pc' := 218) (as := [.int (i32 (4)), .int (i32 (G208 12))]) (st := []) rfl rfl rfl rfl ⟨rfl, rfl, Nat.le_of_ble_eq_true rfl⟩ rfl rfl (c_fail (dd := d) (hd := by omega) (hW := hW359) (kind := 4) (place := G208 12) (fk := fk2_212) (e_fk := show G208 16 = fk2_212 from (e220))  (h_kind := by omega) (h_place := by omega)  (p_0 := by omega) (p_1 := by omega)) (fun o V' hq => ?_)
                              obtain ⟨G441, A442, fk2_443, rfl, rfl, hW444, hF445, e446, p447, -⟩ := hq
                              have hF449 := Fr_tr hF360 hF445 (Fr_sub (by decide)) (Fr_sub (by decide))
                              have bfk2_443 : (0 : Int) ≤ fk2_443 ∧ fk2_443 ≤ 6 := e446 ▸ hW444.1 16
                              refine .inl ⟨rfl, ?_⟩
                              refine jx_go (tg := 230) rfl rfl ?_
                              refine jx_go (tg := 88) rfl rfl ?_
                              have z450 := tz_f (tk2_215)
                              exact ih88 _ (by omega) L363 G441 A442 (n) (many) (r210) ((kk + (1))) (at2_211) (tk2_215) (fk2_443) (nd2_214) (op2_213) rfl gL363_0 gL363_1 gL363_2 gL363_3 gL363_4 gL363_5 hW444 hF449 (((hF445.1 10 rfl).trans (e219))) (((hF445.1 11 rfl).trans (e223))) ((e446)) (((hF445.1 31 rfl).trans (e222))) (((hF445.1 15 rfl).trans (e221))) (((hF445.1 9 rfl).trans ((hF217.1 9 rfl).trans (fx_9)))) (by omega) (by omega) (by omega) (by omega) (by omega) (by omega) (by omega) (by omega) (by omega) (by omega) (by omega) (by omega) (by omega) (by omega) (by omega) (by omega)
                        · have _q : True := trivial
                          refine jx_if_eq (pc' := 203) (tg := 221) rfl rfl rfl (by omega) (by omega) (fun h451 => ?_) (fun h451 => ?_)
                          · have _q := h451
                            refine jx_ld (pc' := 222) (l' := L363) (st' := [.ref 66]) rfl (jl_aloadn gL363_0) ?_
                            refine jx_ar (pc' := 223) (st' := [.int (i32 (1)), .ref 66]) rfl rfl rfl rfl ?_
                            refine jx_ld (pc' := 224) (l' := L363) (st' := [.ref 66, .int (i32 (1)), .ref 66]) rfl (jl_aloadn gL363_0) ?_
                            have b452 : (-3000 : Int) ≤ G208 12 ∧ G208 12 ≤ 3002 := hW216.1 12
                            refine jr_get (pc' := 227) (i := 12) (v := .int (i32 (G208 12))) rfl rfl (by decide) rfl rfl ?_
                            refine jx_vr (pc' := 230) (as := [.int (i32 (1)), .int (i32 (G208 12))]) (st := []) rfl rfl rfl rfl ⟨rfl, rfl, Nat.le_of_ble_eq_true rfl⟩ rfl rfl (c_fail (dd := d) (hd := by omega) (hW := hW359) (kind := 1) (place := G208 12) (fk := fk2_212) (e_fk := show G208 16 = fk2_212 from (e220))  (h_kind := by omega) (h_place := by omega)  (p_0 := by omega) (p_1 := by omega)) (fun o V' hq => ?_)
                            obtain ⟨G453, A454, fk2_455, rfl, rfl, hW456, hF457, e458, p459, -⟩ := hq
                            have hF461 := Fr_tr hF360 hF457 (Fr_sub (by decide)) (Fr_sub (by decide))
                            have bfk2_455 : (0 : Int) ≤ fk2_455 ∧ fk2_455 ≤ 6 := e458 ▸ hW456.1 16
                            refine .inl ⟨rfl, ?_⟩
                            refine jx_go (tg := 88) rfl rfl ?_
                            have z462 := tz_f (tk2_215)
                            exact ih88 _ (by omega) L363 G453 A454 (n) (many) (r210) ((kk + (1))) (at2_211) (tk2_215) (fk2_455) (nd2_214) (op2_213) rfl gL363_0 gL363_1 gL363_2 gL363_3 gL363_4 gL363_5 hW456 hF461 (((hF457.1 10 rfl).trans (e219))) (((hF457.1 11 rfl).trans (e223))) ((e458)) (((hF457.1 31 rfl).trans (e222))) (((hF457.1 15 rfl).trans (e221))) (((hF457.1 9 rfl).trans ((hF217.1 9 rfl).trans (fx_9)))) (by omega) (by omega) (by omega) (by omega) (by omega) (by omega) (by omega) (by omega) (by omega) (by omega) (by omega) (by omega) (by omega) (by omega) (by omega) (by omega)
                          · have _q := h451
                            exact absurd h451 (by omega)
                      · have _q := h430
                        exact absurd h430 (by omega)
                · have _q := h251
                  exact absurd h251 (by omega)
  have at_57 : ∀ (L : jL) (Gx : Nat → Int) (Ax : Nat → Nat → Int) (n many at1 tk1 fk1 nd1 op1 : Int), jGet L 0 = some (.ref 66) → jGet L 1 = some (.int (i32 (s))) → jGet L 2 = some (.int (i32 n)) → jGet L 3 = some (.int (i32 many)) → Wk Gx Ax → Fr [9, 10, 11, 12, 13, 14, 15, 16, 17, 18, 31] [15, 16, 17, 18, 19, 20, 21, 22, 24, 28] G A Gx Ax → Gx 10 = at1 → Gx 11 = tk1 → Gx 16 = fk1 → Gx 31 = nd1 → Gx 15 = op1 → Gx 9 = ln → ((-2147483648 : Int) ≤ n ∧ n ≤ 2147483647) → ((-2147483648 : Int) ≤ many ∧ many ≤ 2147483647) → (at0 ≤ at1) → (at1 ≤ le) → (0 ≤ n ∧ n ≤ 6998) → (nd ≤ nd1 ∧ n ≤ nd1) → (0 ≤ many ∧ many ≤ 6) → (1 ≤ fk1 ∨ op1 = op0 + 1) → (0 ≤ op1 ∧ op1 ≤ 9) → (1 ≤ fk1 ∨ op1 ≤ 8) → (nd1 - nd ≤ (2 * at1 - tz tk1) - (2 * at0 - tz tk0) + 1) → (1 ≤ fk1 ∨ nd1 - nd ≤ (2 * at1 - tz tk1) - (2 * at0 - tz tk0)) → wj X d jm305 (57, L, [], rV c0 c1 Gx Ax T) (fun o V' => ∃ (G' : Nat → Int) (A' : Nat → Nat → Int) (r : Int) (at2 : Int) (fk2 : Int) (nd2 : Int) (ln2 : Int), V' = rV c0 c1 G' A' T ∧ o = .inl (some (.int (i32 r))) ∧ Wk G' A' ∧ Fr [9, 10, 11, 12, 13, 14, 15, 16, 17, 18, 31] [15, 16, 17, 18, 19, 20, 21, 22, 24, 28] G A G' A' ∧ ((-2147483648 : Int) ≤ r ∧ r ≤ 2147483647) ∧ G' 10 = at2 ∧ G' 16 = fk2 ∧ G' 31 = nd2 ∧ G' 9 = ln2 ∧ (at0 ≤ at2) ∧ (at2 ≤ le) ∧ (nd ≤ nd2) ∧ (0 ≤ r) ∧ (r ≤ nd2) ∧ (((1 ≤ fk2) ∧ (ln2 = ln) ∧ (nd2 - nd ≤ 2 * at2 - 2 * at0 + 8)) ∨ ((fk2 = 0) ∧ (ln2 = ln + 1) ∧ (nd2 - nd ≤ 2 * at2 - (2 * at0 - tz tk0) + 0)))) := by
    intro L Gx Ax n many at1 tk1 fk1 nd1 op1 gL_0 gL_1 gL_2 gL_3 hWx hFx ex_at1 ex_tk1 ex_fk1 ex_nd1 ex_op1 fx_9 rx_n rx_many iv_0 iv_1 iv_2 iv_3 iv_4 iv_5 iv_6 iv_7 iv_8 iv_9
    have b_at1 : (0 : Int) ≤ at1 ∧ at1 ≤ 3002 := ex_at1 ▸ hWx.1 10
    have z_tk1 := tz_f tk1
    have b_tk1 : (0 : Int) ≤ tk1 ∧ tk1 ≤ 5 := ex_tk1 ▸ hWx.1 11
    have b_fk1 : (0 : Int) ≤ fk1 ∧ fk1 ≤ 6 := ex_fk1 ▸ hWx.1 16
    have b_nd1 : (0 : Int) ≤ nd1 ∧ nd1 ≤ 6999 := ex_nd1 ▸ hWx.1 31
    have b_op1 : (-2147483648 : Int) ≤ op1 ∧ op1 ≤ 2147483647 := ex_op1 ▸ hWx.1 15
    refine jx_ld (pc' := 58) (l' := L) (st' := [.ref 66]) rfl (jl_aloadn gL_0) ?_
    refine jx_vr (pc' := 61) (as := []) (st := []) rfl rfl rfl rfl ⟨rfl, rfl, Nat.le_of_ble_eq_true rfl⟩ rfl rfl (c_bad (dd := d) (hd := by omega) (hW := hWx)  (fk := fk1) (e_fk := show Gx 16 = fk1 from (ex_fk1))    ) (fun o V' hq => ?_)
    obtain ⟨r463, rfl, rfl, b464, q465⟩ := hq
    refine .inr ⟨_, rfl, ?_⟩
    rcases q465 with ⟨rfl, a466⟩ | ⟨rfl, a467⟩
    · have _q : True := trivial
      refine jx_if_ne (pc' := 64) (tg := 82) rfl rfl rfl (by omega) (by omega) (fun h468 => ?_) (fun h468 => ?_)
      · have _q := h468
        refine jx_ar (pc' := 83) (st' := [.int (i32 (0))]) rfl rfl rfl rfl ?_
        refine jx_ld (pc' := 85) (l' := jSto1 L 4 (.int (i32 (0)))) (st' := []) rfl rfl ?_
        obtain ⟨L469, eL469⟩ : ∃ q, q = jSto1 L 4 (.int (i32 (0))) := ⟨_, rfl⟩
        rw [← eL469]
        have gL469_0 : jGet L469 0 = some (.ref 66) := eL469 ▸ jg_ne (by decide) gL_0 rfl
        have gL469_1 : jGet L469 1 = some (.int (i32 (s))) := eL469 ▸ jg_ne (by decide) gL_1 rfl
        have gL469_2 : jGet L469 2 = some (.int (i32 (n))) := eL469 ▸ jg_ne (by decide) gL_2 rfl
        have gL469_3 : jGet L469 3 = some (.int (i32 (many))) := eL469 ▸ jg_ne (by decide) gL_3 rfl
        have gL469_4 : jGet L469 4 = some (.int (i32 (0))) := eL469 ▸ jg_eq
        refine jx_ar (pc' := 86) (st' := [.int (i32 (0))]) rfl rfl rfl rfl ?_
        refine jx_ld (pc' := 88) (l' := jSto1 L469 5 (.int (i32 (0)))) (st' := []) rfl rfl ?_
        obtain ⟨L470, eL470⟩ : ∃ q, q = jSto1 L469 5 (.int (i32 (0))) := ⟨_, rfl⟩
        rw [← eL470]
        have gL470_0 : jGet L470 0 = some (.ref 66) := eL470 ▸ jg_ne (by decide) gL469_0 rfl
        have gL470_1 : jGet L470 1 = some (.int (i32 (s))) := eL470 ▸ jg_ne (by decide) gL469_1 rfl
        have gL470_2 : jGet L470 2 = some (.int (i32 (n))) := eL470 ▸ jg_ne (by decide) gL469_2 rfl
        have gL470_3 : jGet L470 3 = some (.int (i32 (many))) := eL470 ▸ jg_ne (by decide) gL469_3 rfl
        have gL470_4 : jGet L470 4 = some (.int (i32 (0))) := eL470 ▸ jg_ne (by decide) gL469_4 rfl
        have gL470_5 : jGet L470 5 = some (.int (i32 (0))) := eL470 ▸ jg_eq
        have z471 := tz_f (tk1)
        exact at_88 _ L470 Gx Ax (n) (many) (0) (0) (at1) (tk1) (fk1) (nd1) (op1) rfl gL470_0 gL470_1 gL470_2 gL470_3 gL470_4 gL470_5 hWx hFx ((ex_at1)) ((ex_tk1)) ((ex_fk1)) ((ex_nd1)) ((ex_op1)) ((fx_9)) (by omega) (by omega) (by omega) (by omega) (by omega) (by omega) (by omega) (by omega) (by omega) (by omega) (by omega) (by omega) (by omega) (by omega) (by omega) (by omega)
      · have _q := h468
        exact absurd h468 (by omega)
    · have _q : True := trivial
      refine jx_if_ne (pc' := 64) (tg := 82) rfl rfl rfl (by omega) (by omega) (fun h472 => ?_) (fun h472 => ?_)
      · have _q := h472
        exact absurd h472 (by omega)
      · have _q := h472
        refine jx_ld (pc' := 65) (l' := L) (st' := [.ref 66]) rfl (jl_aloadn gL_0) ?_
        refine jx_ar (pc' := 67) (st' := [.int (i32 (41)), .ref 66]) rfl rfl rfl rfl ?_
        have b473 : (-2147483648 : Int) ≤ Gx 13 ∧ Gx 13 ≤ 2147483647 := hWx.1 13
        refine jx_vr (pc' := 70) (as := [.int (i32 (41))]) (st := []) rfl rfl rfl rfl ⟨rfl, rfl, Nat.le_of_ble_eq_true rfl⟩ rfl rfl (c_is (dd := d) (hd := by omega) (hW := hWx) (k := 41) (tk := tk1) (e_tk := show Gx 11 = tk1 from (ex_tk1)) (tn := Gx 13) (e_tn := show Gx 13 = Gx 13 from rfl)  (h_k := by omega)  ) (fun o V' hq => ?_)
        obtain ⟨r474, rfl, rfl, b475, q476⟩ := hq
        refine .inr ⟨_, rfl, ?_⟩
        rcases q476 with ⟨rfl, a477, a478, a479⟩ | rfl
        · have _q : True := trivial
          refine jx_if_eq (pc' := 73) (tg := 82) rfl rfl rfl (by omega) (by omega) (fun h480 => ?_) (fun h480 => ?_)
          · have _q := h480
            exact absurd h480 (by omega)
          · have _q := h480
            refine jx_ld (pc' := 74) (l' := L) (st' := [.ref 66]) rfl (jl_aloadn gL_0) ?_
            refine jx_ar (pc' := 75) (st' := [.int (i32 (4)), .ref 66]) rfl rfl rfl rfl ?_
            refine jx_ld (pc' := 76) (l' := L) (st' := [.ref 66, .int (i32 (4)), .ref 66]) rfl (jl_aloadn gL_0) ?_
            have b481 : (-3000 : Int) ≤ Gx 12 ∧ Gx 12 ≤ 3002 := hWx.1 12
            refine jr_get (pc' := 79) (i := 12) (v := .int (i32 (Gx 12))) rfl rfl (by decide) rfl rfl ?_
            refine jx_vr (pc' := 82) (as := [.int (i32 (4)), .int (i32 (Gx 12))]) (st := []) rfl rfl rfl rfl ⟨rfl, rfl, Nat.le_of_ble_eq_true rfl⟩ rfl rfl (c_fail (dd := d) (hd := by omega) (hW := hWx) (kind := 4) (place := Gx 12) (fk := fk1) (e_fk := show Gx 16 = fk1 from (ex_fk1))  (h_kind := by omega) (h_place := by omega)  (p_0 := by omega) (p_1 := by omega)) (fun o V' hq => ?_)
            obtain ⟨G482, A483, fk2_484, rfl, rfl, hW485, hF486, e487, p488, -⟩ := hq
            have hF490 := Fr_tr hFx hF486 (Fr_sub (by decide)) (Fr_sub (by decide))
            have bfk2_484 : (0 : Int) ≤ fk2_484 ∧ fk2_484 ≤ 6 := e487 ▸ hW485.1 16
            refine .inl ⟨rfl, ?_⟩
            refine jx_ar (pc' := 83) (st' := [.int (i32 (0))]) rfl rfl rfl rfl ?_
            refine jx_ld (pc' := 85) (l' := jSto1 L 4 (.int (i32 (0)))) (st' := []) rfl rfl ?_
            obtain ⟨L491, eL491⟩ : ∃ q, q = jSto1 L 4 (.int (i32 (0))) := ⟨_, rfl⟩
            rw [← eL491]
            have gL491_0 : jGet L491 0 = some (.ref 66) := eL491 ▸ jg_ne (by decide) gL_0 rfl
            have gL491_1 : jGet L491 1 = some (.int (i32 (s))) := eL491 ▸ jg_ne (by decide) gL_1 rfl
            have gL491_2 : jGet L491 2 = some (.int (i32 (n))) := eL491 ▸ jg_ne (by decide) gL_2 rfl
            have gL491_3 : jGet L491 3 = some (.int (i32 (many))) := eL491 ▸ jg_ne (by decide) gL_3 rfl
            have gL491_4 : jGet L491 4 = some (.int (i32 (0))) := eL491 ▸ jg_eq
            refine jx_ar (pc' := 86) (st' := [.int (i32 (0))]) rfl rfl rfl rfl ?_
            refine jx_ld (pc' := 88) (l' := jSto1 L491 5 (.int (i32 (0)))) (st' := []) rfl rfl ?_
            obtain ⟨L492, eL492⟩ : ∃ q, q = jSto1 L491 5 (.int (i32 (0))) := ⟨_, rfl⟩
            rw [← eL492]
            have gL492_0 : jGet L492 0 = some (.ref 66) := eL492 ▸ jg_ne (by decide) gL491_0 rfl
            have gL492_1 : jGet L492 1 = some (.int (i32 (s))) := eL492 ▸ jg_ne (by decide) gL491_1 rfl
            have gL492_2 : jGet L492 2 = some (.int (i32 (n))) := eL492 ▸ jg_ne (by decide) gL491_2 rfl
            have gL492_3 : jGet L492 3 = some (.int (i32 (many))) := eL492 ▸ jg_ne (by decide) gL491_3 rfl
            have gL492_4 : jGet L492 4 = some (.int (i32 (0))) := eL492 ▸ jg_ne (by decide) gL491_4 rfl
            have gL492_5 : jGet L492 5 = some (.int (i32 (0))) := eL492 ▸ jg_eq
            have z493 := tz_f (tk1)
            exact at_88 _ L492 G482 A483 (n) (many) (0) (0) (at1) (tk1) (fk2_484) (nd1) (op1) rfl gL492_0 gL492_1 gL492_2 gL492_3 gL492_4 gL492_5 hW485 hF490 (((hF486.1 10 rfl).trans (ex_at1))) (((hF486.1 11 rfl).trans (ex_tk1))) ((e487)) (((hF486.1 31 rfl).trans (ex_nd1))) (((hF486.1 15 rfl).trans (ex_op1))) (((hF486.1 9 rfl).trans (fx_9))) (by omega) (by omega) (by omega) (by omega) (by omega) (by omega) (by omega) (by omega) (by omega) (by omega) (by omega) (by omega) (by omega) (by omega) (by omega) (by omega)
        · have _q : True := trivial
          refine jx_if_eq (pc' := 73) (tg := 82) rfl rfl rfl (by omega) (by omega) (fun h494 => ?_) (fun h494 => ?_)
          · have _q := h494
            refine jx_ar (pc' := 83) (st' := [.int (i32 (0))]) rfl rfl rfl rfl ?_
            refine jx_ld (pc' := 85) (l' := jSto1 L 4 (.int (i32 (0)))) (st' := []) rfl rfl ?_
            obtain ⟨L495, eL495⟩ : ∃ q, q = jSto1 L 4 (.int (i32 (0))) := ⟨_, rfl⟩
            rw [← eL495]
            have gL495_0 : jGet L495 0 = some (.ref 66) := eL495 ▸ jg_ne (by decide) gL_0 rfl
            have gL495_1 : jGet L495 1 = some (.int (i32 (s))) := eL495 ▸ jg_ne (by decide) gL_1 rfl
            have gL495_2 : jGet L495 2 = some (.int (i32 (n))) := eL495 ▸ jg_ne (by decide) gL_2 rfl
            have gL495_3 : jGet L495 3 = some (.int (i32 (many))) := eL495 ▸ jg_ne (by decide) gL_3 rfl
            have gL495_4 : jGet L495 4 = some (.int (i32 (0))) := eL495 ▸ jg_eq
            refine jx_ar (pc' := 86) (st' := [.int (i32 (0))]) rfl rfl rfl rfl ?_
            refine jx_ld (pc' := 88) (l' := jSto1 L495 5 (.int (i32 (0)))) (st' := []) rfl rfl ?_
            obtain ⟨L496, eL496⟩ : ∃ q, q = jSto1 L495 5 (.int (i32 (0))) := ⟨_, rfl⟩
            rw [← eL496]
            have gL496_0 : jGet L496 0 = some (.ref 66) := eL496 ▸ jg_ne (by decide) gL495_0 rfl
            have gL496_1 : jGet L496 1 = some (.int (i32 (s))) := eL496 ▸ jg_ne (by decide) gL495_1 rfl
            have gL496_2 : jGet L496 2 = some (.int (i32 (n))) := eL496 ▸ jg_ne (by decide) gL495_2 rfl
            have gL496_3 : jGet L496 3 = some (.int (i32 (many))) := eL496 ▸ jg_ne (by decide) gL495_3 rfl
            have gL496_4 : jGet L496 4 = some (.int (i32 (0))) := eL496 ▸ jg_ne (by decide) gL495_4 rfl
            have gL496_5 : jGet L496 5 = some (.int (i32 (0))) := eL496 ▸ jg_eq
            have z497 := tz_f (tk1)
            exact at_88 _ L496 Gx Ax (n) (many) (0) (0) (at1) (tk1) (fk1) (nd1) (op1) rfl gL496_0 gL496_1 gL496_2 gL496_3 gL496_4 gL496_5 hWx hFx ((ex_at1)) ((ex_tk1)) ((ex_fk1)) ((ex_nd1)) ((ex_op1)) ((fx_9)) (by omega) (by omega) (by omega) (by omega) (by omega) (by omega) (by omega) (by omega) (by omega) (by omega) (by omega) (by omega) (by omega) (by omega) (by omega) (by omega)
          · have _q := h494
            exact absurd h494 (by omega)
  refine jx_ld (pc' := 1) (l' := [(0, .ref 66), (1, .int (i32 (s)))]) (st' := [.ref 66]) rfl (jl_aloadn rfl) ?_
  refine jx_ar (pc' := 3) (st' := [.int (i32 (25)), .ref 66]) rfl rfl rfl rfl ?_
  refine jx_ld (pc' := 4) (l' := [(0, .ref 66), (1, .int (i32 (s)))]) (st' := [.ref 66, .int (i32 (25)), .ref 66]) rfl (jl_aloadn rfl) ?_
  refine jr_get (pc' := 7) (i := 26) (v := .ref 79) rfl rfl (by decide) rfl rfl ?_
  refine jx_ld (pc' := 8) (l' := [(0, .ref 66), (1, .int (i32 (s)))]) (st' := [.int (i32 (s)), .ref 79, .int (i32 (25)), .ref 66]) rfl (jl_iloadn rfl) ?_
  have b498 : (0 : Int) ≤ A 12 (s).toNat ∧ A 12 (s).toNat ≤ 24 := hW.2 12 _
  refine jr_ldv (pc' := 9) (i := 12) (m := 260) (z := s) (y := A 12 (s).toNat) rfl (by decide) rfl (by decide) (by omega) (by omega) rfl (show A 12 (s).toNat = A 12 (s).toNat from rfl) ?_
  refine jx_ar (pc' := 10) (st' := [.int (i32 (0)), .int (i32 (A 12 (s).toNat)), .int (i32 (25)), .ref 66]) rfl rfl rfl rfl ?_
  refine jx_ar (pc' := 11) (st' := [.int (i32 (0)), .int (i32 (0)), .int (i32 (A 12 (s).toNat)), .int (i32 (25)), .ref 66]) rfl rfl rfl rfl ?_
  refine jx_ar (pc' := 12) (st' := [.int (i32 (0)), .int (i32 (0)), .int (i32 (0)), .int (i32 (A 12 (s).toNat)), .int (i32 (25)), .ref 66]) rfl rfl rfl rfl ?_
  refine jx_vr (pc' := 15) (as := [.int (i32 (25)), .int (i32 (A 12 (s).toNat)), .int (i32 (0)), .int (i32 (0)), .int (i32 (0))]) (st := []) rfl rfl rfl rfl ⟨rfl, rfl, Nat.le_of_ble_eq_true rfl⟩ rfl rfl (c_node (dd := d) (hd := by omega) (hW := hW) (kind := 25) (a := A 12 (s).toNat) (b := 0) (c := 0) (e := 0) (nd := nd) (e_nd := show G 31 = nd from (e_nd))  (h_kind := by omega) (h_a := by omega) (h_b := by omega) (h_c := by omega) (h_e := by omega)  (p_0 := by omega) (p_1 := by omega)) (fun o V' hq => ?_)
  obtain ⟨G499, A500, r501, nd2_502, rfl, rfl, hW503, hF504, b505, e506, p507, p508, -⟩ := hq
  have hF510 := Fr_tr hF0 hF504 (Fr_sub (by decide)) (Fr_sub (by decide))
  have bnd2_502 : (0 : Int) ≤ nd2_502 ∧ nd2_502 ≤ 6999 := e506 ▸ hW503.1 31
  refine .inr ⟨_, rfl, ?_⟩
  refine jx_ld (pc' := 16) (l' := jSto1 [(0, .ref 66), (1, .int (i32 (s)))] 2 (.int (i32 (r501)))) (st' := []) rfl rfl ?_
  obtain ⟨L511, eL511⟩ : ∃ q, q = jSto1 [(0, .ref 66), (1, .int (i32 (s)))] 2 (.int (i32 (r501))) := ⟨_, rfl⟩
  rw [← eL511]
  have gL511_0 : jGet L511 0 = some (.ref 66) := eL511 ▸ jg_ne (by decide) (rfl : jGet [(0, .ref 66), (1, .int (i32 (s)))] 0 = some (.ref 66)) rfl
  have gL511_1 : jGet L511 1 = some (.int (i32 (s))) := eL511 ▸ jg_ne (by decide) (rfl : jGet [(0, .ref 66), (1, .int (i32 (s)))] 1 = some (.int (i32 (s)))) rfl
  have gL511_2 : jGet L511 2 = some (.int (i32 (r501))) := eL511 ▸ jg_eq
  refine jx_ld (pc' := 17) (l' := L511) (st' := [.ref 66]) rfl (jl_aloadn gL511_0) ?_
  refine jr_get (pc' := 20) (i := 48) (v := .ref 97) rfl rfl (by decide) rfl rfl ?_
  refine jx_ld (pc' := 21) (l' := L511) (st' := [.ref 66, .ref 97]) rfl (jl_aloadn gL511_0) ?_
  refine jr_get (pc' := 24) (i := 26) (v := .ref 79) rfl rfl (by decide) rfl rfl ?_
  refine jx_ld (pc' := 25) (l' := L511) (st' := [.int (i32 (s)), .ref 79, .ref 97]) rfl (jl_iloadn gL511_1) ?_
  refine jr_ldv (pc' := 26) (i := 12) (m := 260) (z := s) (y := A 12 (s).toNat) rfl (by decide) rfl (by decide) (by omega) (by omega) rfl (show A500 12 (s).toNat = A 12 (s).toNat from (congrFun (hF504.2 12 rfl) _)) ?_
  have b512 : (0 : Int) ≤ A 30 (A 12 (s).toNat).toNat ∧ A 30 (A 12 (s).toNat).toNat ≤ 6 := hW.2 30 _
  refine jr_ldv (pc' := 27) (i := 30) (m := 25) (z := A 12 (s).toNat) (y := A 30 (A 12 (s).toNat).toNat) rfl (by decide) rfl (by decide) (by omega) (by omega) rfl (show A500 30 (A 12 (s).toNat).toNat = A 30 (A 12 (s).toNat).toNat from (congrFun (hF504.2 30 rfl) _)) ?_
  refine jx_ld (pc' := 28) (l' := jSto1 L511 3 (.int (i32 (A 30 (A 12 (s).toNat).toNat)))) (st' := []) rfl rfl ?_
  obtain ⟨L513, eL513⟩ : ∃ q, q = jSto1 L511 3 (.int (i32 (A 30 (A 12 (s).toNat).toNat))) := ⟨_, rfl⟩
  rw [← eL513]
  have gL513_0 : jGet L513 0 = some (.ref 66) := eL513 ▸ jg_ne (by decide) gL511_0 rfl
  have gL513_1 : jGet L513 1 = some (.int (i32 (s))) := eL513 ▸ jg_ne (by decide) gL511_1 rfl
  have gL513_2 : jGet L513 2 = some (.int (i32 (r501))) := eL513 ▸ jg_ne (by decide) gL511_2 rfl
  have gL513_3 : jGet L513 3 = some (.int (i32 (A 30 (A 12 (s).toNat).toNat))) := eL513 ▸ jg_eq
  refine jx_ld (pc' := 29) (l' := L513) (st' := [.ref 66]) rfl (jl_aloadn gL513_0) ?_
  refine jx_vr (pc' := 32) (as := []) (st := []) rfl rfl rfl rfl ⟨rfl, rfl, Nat.le_of_ble_eq_true rfl⟩ rfl rfl (c_open (dd := d) (hd := by omega) (hW := hW503)  (fk := fk) (e_fk := show G499 16 = fk from ((hF504.1 16 rfl).trans (e_fk))) (op0 := op0) (e_op0 := show G499 15 = op0 from ((hF504.1 15 rfl).trans (e_op0)))    (p_0 := by omega)) (fun o V' hq => ?_)
  obtain ⟨G514, A515, fk2_516, op2_517, rfl, rfl, hW518, hF519, e520, e521, p522, q523⟩ := hq
  have hF524 := Fr_tr hF510 hF519 (Fr_sub (by decide)) (Fr_sub (by decide))
  have bfk2_516 : (0 : Int) ≤ fk2_516 ∧ fk2_516 ≤ 6 := e520 ▸ hW518.1 16
  have bop2_517 : (-2147483648 : Int) ≤ op2_517 ∧ op2_517 ≤ 2147483647 := e521 ▸ hW518.1 15
  refine .inl ⟨rfl, ?_⟩
  rcases q523 with a525 | ⟨a526, a527, a528⟩
  · have _q : True := trivial
    refine jx_ld (pc' := 33) (l' := L513) (st' := [.ref 66]) rfl (jl_aloadn gL513_0) ?_
    refine jx_ar (pc' := 34) (st' := [.int (i32 (1)), .ref 66]) rfl rfl rfl rfl ?_
    refine jx_vr (pc' := 37) (as := [.int (i32 (1))]) (st := []) rfl rfl rfl rfl ⟨rfl, rfl, Nat.le_of_ble_eq_true rfl⟩ rfl rfl (c_need (dd := d) (hd := by omega) (hW := hW518) (g := 1) (ln := ln) (e_ln := show G514 9 = ln from ((hF519.1 9 rfl).trans ((hF504.1 9 rfl).trans (e_ln)))) (le := le) (e_le := show A515 4 (ln).toNat = le from (congrFun ((hF519.2 4 rfl).trans (hF504.2 4 rfl)) _).trans (e_le)) (at0 := at0) (e_at0 := show G514 10 = at0 from ((hF519.1 10 rfl).trans ((hF504.1 10 rfl).trans (e_at0)))) (fk := fk2_516) (e_fk := show G514 16 = fk2_516 from (e520)) (tk0 := tk0) (e_tk0 := show G514 11 = tk0 from ((hF519.1 11 rfl).trans ((hF504.1 11 rfl).trans (e_tk0))))  (h_g := by omega)  (p_0 := by omega)) (fun o V' hq => ?_)
    obtain ⟨G529, A530, at2_531, tk2_532, fk2_533, rfl, rfl, hW534, hF535, e536, e537, e538, p539, p540, q541⟩ := hq
    have hF542 := Fr_tr hF524 hF535 (Fr_sub (by decide)) (Fr_sub (by decide))
    have bat2_531 : (0 : Int) ≤ at2_531 ∧ at2_531 ≤ 3002 := e536 ▸ hW534.1 10
    have ztk2_532 := tz_b tk2_532
    have btk2_532 : (0 : Int) ≤ tk2_532 ∧ tk2_532 ≤ 5 := e537 ▸ hW534.1 11
    have bfk2_533 : (0 : Int) ≤ fk2_533 ∧ fk2_533 ≤ 6 := e538 ▸ hW534.1 16
    refine .inl ⟨rfl, ?_⟩
    rcases q541 with ⟨a543, a544, a545, a546⟩ | ⟨a547, a548, a549, a550⟩
    · have _q : True := trivial
      refine jx_ld (pc' := 38) (l' := L513) (st' := [.int (i32 (A 30 (A 12 (s).toNat).toNat))]) rfl (jl_iloadn gL513_3) ?_
      refine jx_if_ne (pc' := 41) (tg := 57) rfl rfl rfl (by omega) (by omega) (fun h551 => ?_) (fun h551 => ?_)
      · have _q := h551
        have z552 := tz_f (tk2_532)
        exact at_57 L513 G529 A530 (r501) (A 30 (A 12 (s).toNat).toNat) (at2_531) (tk2_532) (fk2_533) (nd2_502) (op2_517) gL513_0 gL513_1 gL513_2 gL513_3 hW534 hF542 ((e536)) ((e537)) ((e538)) (((hF535.1 31 rfl).trans ((hF519.1 31 rfl).trans (e506)))) (((hF535.1 15 rfl).trans (e521))) (((hF535.1 9 rfl).trans ((hF519.1 9 rfl).trans ((hF504.1 9 rfl).trans (e_ln))))) (by omega) (by omega) (by omega) (by omega) (by omega) (by omega) (by omega) (by omega) (by omega) (by omega) (by omega) (by omega)
      · have _q := h551
        refine jx_ld (pc' := 42) (l' := L513) (st' := [.ref 66]) rfl (jl_aloadn gL513_0) ?_
        refine jx_ld (pc' := 43) (l' := L513) (st' := [.ref 66, .ref 66]) rfl (jl_aloadn gL513_0) ?_
        refine jx_ar (pc' := 45) (st' := [.int (i32 (41)), .ref 66, .ref 66]) rfl rfl rfl rfl ?_
        have b553 : (-2147483648 : Int) ≤ G529 13 ∧ G529 13 ≤ 2147483647 := hW534.1 13
        refine jx_vr (pc' := 48) (as := [.int (i32 (41))]) (st := [.ref 66]) rfl rfl rfl rfl ⟨rfl, rfl, Nat.le_of_ble_eq_true rfl⟩ rfl rfl (c_is (dd := d) (hd := by omega) (hW := hW534) (k := 41) (tk := tk2_532) (e_tk := show G529 11 = tk2_532 from (e537)) (tn := G529 13) (e_tn := show G529 13 = G529 13 from rfl)  (h_k := by omega)  ) (fun o V' hq => ?_)
        obtain ⟨r554, rfl, rfl, b555, q556⟩ := hq
        refine .inr ⟨_, rfl, ?_⟩
        rcases q556 with ⟨rfl, a557, a558, a559⟩ | rfl
        · have _q : True := trivial
          refine jx_vr (pc' := 51) (as := [.int (i32 (1))]) (st := []) rfl rfl rfl rfl ⟨rfl, rfl, Nat.le_of_ble_eq_true rfl⟩ rfl rfl (c_need (dd := d) (hd := by omega) (hW := hW534) (g := 1) (ln := ln) (e_ln := show G529 9 = ln from ((hF535.1 9 rfl).trans ((hF519.1 9 rfl).trans ((hF504.1 9 rfl).trans (e_ln))))) (le := le) (e_le := show A530 4 (ln).toNat = le from (congrFun ((hF535.2 4 rfl).trans ((hF519.2 4 rfl).trans (hF504.2 4 rfl))) _).trans (e_le)) (at0 := at2_531) (e_at0 := show G529 10 = at2_531 from (e536)) (fk := fk2_533) (e_fk := show G529 16 = fk2_533 from (e538)) (tk0 := tk2_532) (e_tk0 := show G529 11 = tk2_532 from (e537))  (h_g := by omega)  (p_0 := by omega)) (fun o V' hq => ?_)
          obtain ⟨G560, A561, at2_562, tk2_563, fk2_564, rfl, rfl, hW565, hF566, e567, e568, e569, p570, p571, q572⟩ := hq
          have hF573 := Fr_tr hF542 hF566 (Fr_sub (by decide)) (Fr_sub (by decide))
          have bat2_562 : (0 : Int) ≤ at2_562 ∧ at2_562 ≤ 3002 := e567 ▸ hW565.1 10
          have ztk2_563 := tz_b tk2_563
          have btk2_563 : (0 : Int) ≤ tk2_563 ∧ tk2_563 ≤ 5 := e568 ▸ hW565.1 11
          have bfk2_564 : (0 : Int) ≤ fk2_564 ∧ fk2_564 ≤ 6 := e569 ▸ hW565.1 16
          refine .inl ⟨rfl, ?_⟩
          rcases q572 with ⟨a574, a575, a576, a577⟩ | ⟨a578, a579, a580, a581⟩
          · have _q : True := trivial
            refine jx_ld (pc' := 52) (l' := L513) (st' := [.ref 66]) rfl (jl_aloadn gL513_0) ?_
            refine jx_vr (pc' := 55) (as := []) (st := []) rfl rfl rfl rfl ⟨rfl, rfl, Nat.le_of_ble_eq_true rfl⟩ rfl rfl (c_endLine (dd := d) (hd := by omega) (hW := hW565)  (ln := ln) (e_ln := show G560 9 = ln from ((hF566.1 9 rfl).trans ((hF535.1 9 rfl).trans ((hF519.1 9 rfl).trans ((hF504.1 9 rfl).trans (e_ln)))))) (li := li) (e_li := show G560 3 = li from ((hF566.1 3 rfl).trans ((hF535.1 3 rfl).trans ((hF519.1 3 rfl).trans ((hF504.1 3 rfl).trans (e_li)))))) (fk := fk2_564) (e_fk := show G560 16 = fk2_564 from (e569)) (tk0 := tk2_563) (e_tk0 := show G560 11 = tk2_563 from (e568))    (p_0 := by omega)) (fun o V' hq => ?_)
            obtain ⟨G582, A583, ln2_584, fk2_585, rfl, rfl, hW586, hF587, e588, e589, q590⟩ := hq
            have hF591 := Fr_tr hF573 hF587 (Fr_sub (by decide)) (Fr_sub (by decide))
            have bln2_584 : (0 : Int) ≤ ln2_584 ∧ ln2_584 ≤ 3000 := e588 ▸ hW586.1 9
            have bfk2_585 : (0 : Int) ≤ fk2_585 ∧ fk2_585 ≤ 6 := e589 ▸ hW586.1 16
            refine .inl ⟨rfl, ?_⟩
            rcases q590 with ⟨a592, a593, a594, a595, a596⟩ | ⟨a597, a598⟩
            · have _q : True := trivial
              exfalso
              omega
            · have _q : True := trivial
              refine jx_ld (pc' := 56) (l' := L513) (st' := [.int (i32 (r501))]) rfl (jl_iloadn gL513_2) ?_
              refine jx_rt (v := some (.int (i32 (r501)))) rfl rfl rfl rfl rfl rfl ?_
              exact ⟨_, _, _, at2_562, fk2_585, nd2_502, ln2_584, rfl, rfl, hW586, hF591, by omega, ((hF587.1 10 rfl).trans (e567)), (e589), ((hF587.1 31 rfl).trans ((hF566.1 31 rfl).trans ((hF535.1 31 rfl).trans ((hF519.1 31 rfl).trans (e506))))), (e588), by omega, by omega, by omega, by omega, by omega, by first | exact Or.inl (⟨by omega, by omega, by omega⟩) | exact Or.inr ((⟨by omega, by omega, by omega⟩))⟩
          · have _q : True := trivial
            exfalso
            omega
        · have _q : True := trivial
          refine jx_vr (pc' := 51) (as := [.int (i32 (0))]) (st := []) rfl rfl rfl rfl ⟨rfl, rfl, Nat.le_of_ble_eq_true rfl⟩ rfl rfl (c_need (dd := d) (hd := by omega) (hW := hW534) (g := 0) (ln := ln) (e_ln := show G529 9 = ln from ((hF535.1 9 rfl).trans ((hF519.1 9 rfl).trans ((hF504.1 9 rfl).trans (e_ln))))) (le := le) (e_le := show A530 4 (ln).toNat = le from (congrFun ((hF535.2 4 rfl).trans ((hF519.2 4 rfl).trans (hF504.2 4 rfl))) _).trans (e_le)) (at0 := at2_531) (e_at0 := show G529 10 = at2_531 from (e536)) (fk := fk2_533) (e_fk := show G529 16 = fk2_533 from (e538)) (tk0 := tk2_532) (e_tk0 := show G529 11 = tk2_532 from (e537))  (h_g := by omega)  (p_0 := by omega)) (fun o V' hq => ?_)
          obtain ⟨G599, A600, at2_601, tk2_602, fk2_603, rfl, rfl, hW604, hF605, e606, e607, e608, p609, p610, q611⟩ := hq
          have hF612 := Fr_tr hF542 hF605 (Fr_sub (by decide)) (Fr_sub (by decide))
          have bat2_601 : (0 : Int) ≤ at2_601 ∧ at2_601 ≤ 3002 := e606 ▸ hW604.1 10
          have ztk2_602 := tz_b tk2_602
          have btk2_602 : (0 : Int) ≤ tk2_602 ∧ tk2_602 ≤ 5 := e607 ▸ hW604.1 11
          have bfk2_603 : (0 : Int) ≤ fk2_603 ∧ fk2_603 ≤ 6 := e608 ▸ hW604.1 16
          refine .inl ⟨rfl, ?_⟩
          rcases q611 with ⟨a613, a614, a615, a616⟩ | ⟨a617, a618, a619, a620⟩
          · have _q : True := trivial
            refine jx_ld (pc' := 52) (l' := L513) (st' := [.ref 66]) rfl (jl_aloadn gL513_0) ?_
            refine jx_vr (pc' := 55) (as := []) (st := []) rfl rfl rfl rfl ⟨rfl, rfl, Nat.le_of_ble_eq_true rfl⟩ rfl rfl (c_endLine (dd := d) (hd := by omega) (hW := hW604)  (ln := ln) (e_ln := show G599 9 = ln from ((hF605.1 9 rfl).trans ((hF535.1 9 rfl).trans ((hF519.1 9 rfl).trans ((hF504.1 9 rfl).trans (e_ln)))))) (li := li) (e_li := show G599 3 = li from ((hF605.1 3 rfl).trans ((hF535.1 3 rfl).trans ((hF519.1 3 rfl).trans ((hF504.1 3 rfl).trans (e_li)))))) (fk := fk2_603) (e_fk := show G599 16 = fk2_603 from (e608)) (tk0 := tk2_602) (e_tk0 := show G599 11 = tk2_602 from (e607))    (p_0 := by omega)) (fun o V' hq => ?_)
            obtain ⟨G621, A622, ln2_623, fk2_624, rfl, rfl, hW625, hF626, e627, e628, q629⟩ := hq
            have hF630 := Fr_tr hF612 hF626 (Fr_sub (by decide)) (Fr_sub (by decide))
            have bln2_623 : (0 : Int) ≤ ln2_623 ∧ ln2_623 ≤ 3000 := e627 ▸ hW625.1 9
            have bfk2_624 : (0 : Int) ≤ fk2_624 ∧ fk2_624 ≤ 6 := e628 ▸ hW625.1 16
            refine .inl ⟨rfl, ?_⟩
            rcases q629 with ⟨a631, a632, a633, a634, a635⟩ | ⟨a636, a637⟩
            · have _q : True := trivial
              exfalso
              omega
            · have _q : True := trivial
              refine jx_ld (pc' := 56) (l' := L513) (st' := [.int (i32 (r501))]) rfl (jl_iloadn gL513_2) ?_
              refine jx_rt (v := some (.int (i32 (r501)))) rfl rfl rfl rfl rfl rfl ?_
              exact ⟨_, _, _, at2_601, fk2_624, nd2_502, ln2_623, rfl, rfl, hW625, hF630, by omega, ((hF626.1 10 rfl).trans (e606)), (e628), ((hF626.1 31 rfl).trans ((hF605.1 31 rfl).trans ((hF535.1 31 rfl).trans ((hF519.1 31 rfl).trans (e506))))), (e627), by omega, by omega, by omega, by omega, by omega, by first | exact Or.inl (⟨by omega, by omega, by omega⟩) | exact Or.inr ((⟨by omega, by omega, by omega⟩))⟩
          · have _q : True := trivial
            exfalso
            omega
    · have _q : True := trivial
      exfalso
      omega
  · have _q : True := trivial
    refine jx_ld (pc' := 33) (l' := L513) (st' := [.ref 66]) rfl (jl_aloadn gL513_0) ?_
    refine jx_ar (pc' := 34) (st' := [.int (i32 (1)), .ref 66]) rfl rfl rfl rfl ?_
    refine jx_vr (pc' := 37) (as := [.int (i32 (1))]) (st := []) rfl rfl rfl rfl ⟨rfl, rfl, Nat.le_of_ble_eq_true rfl⟩ rfl rfl (c_need (dd := d) (hd := by omega) (hW := hW518) (g := 1) (ln := ln) (e_ln := show G514 9 = ln from ((hF519.1 9 rfl).trans ((hF504.1 9 rfl).trans (e_ln)))) (le := le) (e_le := show A515 4 (ln).toNat = le from (congrFun ((hF519.2 4 rfl).trans (hF504.2 4 rfl)) _).trans (e_le)) (at0 := at0) (e_at0 := show G514 10 = at0 from ((hF519.1 10 rfl).trans ((hF504.1 10 rfl).trans (e_at0)))) (fk := fk2_516) (e_fk := show G514 16 = fk2_516 from (e520)) (tk0 := tk0) (e_tk0 := show G514 11 = tk0 from ((hF519.1 11 rfl).trans ((hF504.1 11 rfl).trans (e_tk0))))  (h_g := by omega)  (p_0 := by omega)) (fun o V' hq => ?_)
    obtain ⟨G638, A639, at2_640, tk2_641, fk2_642, rfl, rfl, hW643, hF644, e645, e646, e647, p648, p649, q650⟩ := hq
    have hF651 := Fr_tr hF524 hF644 (Fr_sub (by decide)) (Fr_sub (by decide))
    have bat2_640 : (0 : Int) ≤ at2_640 ∧ at2_640 ≤ 3002 := e645 ▸ hW643.1 10
    have ztk2_641 := tz_b tk2_641
    have btk2_641 : (0 : Int) ≤ tk2_641 ∧ tk2_641 ≤ 5 := e646 ▸ hW643.1 11
    have bfk2_642 : (0 : Int) ≤ fk2_642 ∧ fk2_642 ≤ 6 := e647 ▸ hW643.1 16
    refine .inl ⟨rfl, ?_⟩
    rcases q650 with ⟨a652, a653, a654, a655⟩ | ⟨a656, a657, a658, a659⟩
    · have _q : True := trivial
      refine jx_ld (pc' := 38) (l' := L513) (st' := [.int (i32 (A 30 (A 12 (s).toNat).toNat))]) rfl (jl_iloadn gL513_3) ?_
      refine jx_if_ne (pc' := 41) (tg := 57) rfl rfl rfl (by omega) (by omega) (fun h660 => ?_) (fun h660 => ?_)
      · have _q := h660
        have z661 := tz_f (tk2_641)
        exact at_57 L513 G638 A639 (r501) (A 30 (A 12 (s).toNat).toNat) (at2_640) (tk2_641) (fk2_642) (nd2_502) (op2_517) gL513_0 gL513_1 gL513_2 gL513_3 hW643 hF651 ((e645)) ((e646)) ((e647)) (((hF644.1 31 rfl).trans ((hF519.1 31 rfl).trans (e506)))) (((hF644.1 15 rfl).trans (e521))) (((hF644.1 9 rfl).trans ((hF519.1 9 rfl).trans ((hF504.1 9 rfl).trans (e_ln))))) (by omega) (by omega) (by omega) (by omega) (by omega) (by omega) (by omega) (by omega) (by omega) (by omega) (by omega) (by omega)
      · have _q := h660
        refine jx_ld (pc' := 42) (l' := L513) (st' := [.ref 66]) rfl (jl_aloadn gL513_0) ?_
        refine jx_ld (pc' := 43) (l' := L513) (st' := [.ref 66, .ref 66]) rfl (jl_aloadn gL513_0) ?_
        refine jx_ar (pc' := 45) (st' := [.int (i32 (41)), .ref 66, .ref 66]) rfl rfl rfl rfl ?_
        have b662 : (-2147483648 : Int) ≤ G638 13 ∧ G638 13 ≤ 2147483647 := hW643.1 13
        refine jx_vr (pc' := 48) (as := [.int (i32 (41))]) (st := [.ref 66]) rfl rfl rfl rfl ⟨rfl, rfl, Nat.le_of_ble_eq_true rfl⟩ rfl rfl (c_is (dd := d) (hd := by omega) (hW := hW643) (k := 41) (tk := tk2_641) (e_tk := show G638 11 = tk2_641 from (e646)) (tn := G638 13) (e_tn := show G638 13 = G638 13 from rfl)  (h_k := by omega)  ) (fun o V' hq => ?_)
        obtain ⟨r663, rfl, rfl, b664, q665⟩ := hq
        refine .inr ⟨_, rfl, ?_⟩
        rcases q665 with ⟨rfl, a666, a667, a668⟩ | rfl
        · have _q : True := trivial
          refine jx_vr (pc' := 51) (as := [.int (i32 (1))]) (st := []) rfl rfl rfl rfl ⟨rfl, rfl, Nat.le_of_ble_eq_true rfl⟩ rfl rfl (c_need (dd := d) (hd := by omega) (hW := hW643) (g := 1) (ln := ln) (e_ln := show G638 9 = ln from ((hF644.1 9 rfl).trans ((hF519.1 9 rfl).trans ((hF504.1 9 rfl).trans (e_ln))))) (le := le) (e_le := show A639 4 (ln).toNat = le from (congrFun ((hF644.2 4 rfl).trans ((hF519.2 4 rfl).trans (hF504.2 4 rfl))) _).trans (e_le)) (at0 := at2_640) (e_at0 := show G638 10 = at2_640 from (e645)) (fk := fk2_642) (e_fk := show G638 16 = fk2_642 from (e647)) (tk0 := tk2_641) (e_tk0 := show G638 11 = tk2_641 from (e646))  (h_g := by omega)  (p_0 := by omega)) (fun o V' hq => ?_)
          obtain ⟨G669, A670, at2_671, tk2_672, fk2_673, rfl, rfl, hW674, hF675, e676, e677, e678, p679, p680, q681⟩ := hq
          have hF682 := Fr_tr hF651 hF675 (Fr_sub (by decide)) (Fr_sub (by decide))
          have bat2_671 : (0 : Int) ≤ at2_671 ∧ at2_671 ≤ 3002 := e676 ▸ hW674.1 10
          have ztk2_672 := tz_b tk2_672
          have btk2_672 : (0 : Int) ≤ tk2_672 ∧ tk2_672 ≤ 5 := e677 ▸ hW674.1 11
          have bfk2_673 : (0 : Int) ≤ fk2_673 ∧ fk2_673 ≤ 6 := e678 ▸ hW674.1 16
          refine .inl ⟨rfl, ?_⟩
          rcases q681 with ⟨a683, a684, a685, a686⟩ | ⟨a687, a688, a689, a690⟩
          · have _q : True := trivial
            refine jx_ld (pc' := 52) (l' := L513) (st' := [.ref 66]) rfl (jl_aloadn gL513_0) ?_
            refine jx_vr (pc' := 55) (as := []) (st := []) rfl rfl rfl rfl ⟨rfl, rfl, Nat.le_of_ble_eq_true rfl⟩ rfl rfl (c_endLine (dd := d) (hd := by omega) (hW := hW674)  (ln := ln) (e_ln := show G669 9 = ln from ((hF675.1 9 rfl).trans ((hF644.1 9 rfl).trans ((hF519.1 9 rfl).trans ((hF504.1 9 rfl).trans (e_ln)))))) (li := li) (e_li := show G669 3 = li from ((hF675.1 3 rfl).trans ((hF644.1 3 rfl).trans ((hF519.1 3 rfl).trans ((hF504.1 3 rfl).trans (e_li)))))) (fk := fk2_673) (e_fk := show G669 16 = fk2_673 from (e678)) (tk0 := tk2_672) (e_tk0 := show G669 11 = tk2_672 from (e677))    (p_0 := by omega)) (fun o V' hq => ?_)
            obtain ⟨G691, A692, ln2_693, fk2_694, rfl, rfl, hW695, hF696, e697, e698, q699⟩ := hq
            have hF700 := Fr_tr hF682 hF696 (Fr_sub (by decide)) (Fr_sub (by decide))
            have bln2_693 : (0 : Int) ≤ ln2_693 ∧ ln2_693 ≤ 3000 := e697 ▸ hW695.1 9
            have bfk2_694 : (0 : Int) ≤ fk2_694 ∧ fk2_694 ≤ 6 := e698 ▸ hW695.1 16
            refine .inl ⟨rfl, ?_⟩
            rcases q699 with ⟨a701, a702, a703, a704, a705⟩ | ⟨a706, a707⟩
            · have _q : True := trivial
              exfalso
              omega
            · have _q : True := trivial
              refine jx_ld (pc' := 56) (l' := L513) (st' := [.int (i32 (r501))]) rfl (jl_iloadn gL513_2) ?_
              refine jx_rt (v := some (.int (i32 (r501)))) rfl rfl rfl rfl rfl rfl ?_
              exact ⟨_, _, _, at2_671, fk2_694, nd2_502, ln2_693, rfl, rfl, hW695, hF700, by omega, ((hF696.1 10 rfl).trans (e676)), (e698), ((hF696.1 31 rfl).trans ((hF675.1 31 rfl).trans ((hF644.1 31 rfl).trans ((hF519.1 31 rfl).trans (e506))))), (e697), by omega, by omega, by omega, by omega, by omega, by first | exact Or.inl (⟨by omega, by omega, by omega⟩) | exact Or.inr ((⟨by omega, by omega, by omega⟩))⟩
          · have _q : True := trivial
            exfalso
            omega
        · have _q : True := trivial
          refine jx_vr (pc' := 51) (as := [.int (i32 (0))]) (st := []) rfl rfl rfl rfl ⟨rfl, rfl, Nat.le_of_ble_eq_true rfl⟩ rfl rfl (c_need (dd := d) (hd := by omega) (hW := hW643) (g := 0) (ln := ln) (e_ln := show G638 9 = ln from ((hF644.1 9 rfl).trans ((hF519.1 9 rfl).trans ((hF504.1 9 rfl).trans (e_ln))))) (le := le) (e_le := show A639 4 (ln).toNat = le from (congrFun ((hF644.2 4 rfl).trans ((hF519.2 4 rfl).trans (hF504.2 4 rfl))) _).trans (e_le)) (at0 := at2_640) (e_at0 := show G638 10 = at2_640 from (e645)) (fk := fk2_642) (e_fk := show G638 16 = fk2_642 from (e647)) (tk0 := tk2_641) (e_tk0 := show G638 11 = tk2_641 from (e646))  (h_g := by omega)  (p_0 := by omega)) (fun o V' hq => ?_)
          obtain ⟨G708, A709, at2_710, tk2_711, fk2_712, rfl, rfl, hW713, hF714, e715, e716, e717, p718, p719, q720⟩ := hq
          have hF721 := Fr_tr hF651 hF714 (Fr_sub (by decide)) (Fr_sub (by decide))
          have bat2_710 : (0 : Int) ≤ at2_710 ∧ at2_710 ≤ 3002 := e715 ▸ hW713.1 10
          have ztk2_711 := tz_b tk2_711
          have btk2_711 : (0 : Int) ≤ tk2_711 ∧ tk2_711 ≤ 5 := e716 ▸ hW713.1 11
          have bfk2_712 : (0 : Int) ≤ fk2_712 ∧ fk2_712 ≤ 6 := e717 ▸ hW713.1 16
          refine .inl ⟨rfl, ?_⟩
          rcases q720 with ⟨a722, a723, a724, a725⟩ | ⟨a726, a727, a728, a729⟩
          · have _q : True := trivial
            refine jx_ld (pc' := 52) (l' := L513) (st' := [.ref 66]) rfl (jl_aloadn gL513_0) ?_
            refine jx_vr (pc' := 55) (as := []) (st := []) rfl rfl rfl rfl ⟨rfl, rfl, Nat.le_of_ble_eq_true rfl⟩ rfl rfl (c_endLine (dd := d) (hd := by omega) (hW := hW713)  (ln := ln) (e_ln := show G708 9 = ln from ((hF714.1 9 rfl).trans ((hF644.1 9 rfl).trans ((hF519.1 9 rfl).trans ((hF504.1 9 rfl).trans (e_ln)))))) (li := li) (e_li := show G708 3 = li from ((hF714.1 3 rfl).trans ((hF644.1 3 rfl).trans ((hF519.1 3 rfl).trans ((hF504.1 3 rfl).trans (e_li)))))) (fk := fk2_712) (e_fk := show G708 16 = fk2_712 from (e717)) (tk0 := tk2_711) (e_tk0 := show G708 11 = tk2_711 from (e716))    (p_0 := by omega)) (fun o V' hq => ?_)
            obtain ⟨G730, A731, ln2_732, fk2_733, rfl, rfl, hW734, hF735, e736, e737, q738⟩ := hq
            have hF739 := Fr_tr hF721 hF735 (Fr_sub (by decide)) (Fr_sub (by decide))
            have bln2_732 : (0 : Int) ≤ ln2_732 ∧ ln2_732 ≤ 3000 := e736 ▸ hW734.1 9
            have bfk2_733 : (0 : Int) ≤ fk2_733 ∧ fk2_733 ≤ 6 := e737 ▸ hW734.1 16
            refine .inl ⟨rfl, ?_⟩
            rcases q738 with ⟨a740, a741, a742, a743, a744⟩ | ⟨a745, a746⟩
            · have _q : True := trivial
              exfalso
              omega
            · have _q : True := trivial
              refine jx_ld (pc' := 56) (l' := L513) (st' := [.int (i32 (r501))]) rfl (jl_iloadn gL513_2) ?_
              refine jx_rt (v := some (.int (i32 (r501)))) rfl rfl rfl rfl rfl rfl ?_
              exact ⟨_, _, _, at2_710, fk2_733, nd2_502, ln2_732, rfl, rfl, hW734, hF739, by omega, ((hF735.1 10 rfl).trans (e715)), (e737), ((hF735.1 31 rfl).trans ((hF714.1 31 rfl).trans ((hF644.1 31 rfl).trans ((hF519.1 31 rfl).trans (e506))))), (e736), by omega, by omega, by omega, by omega, by omega, by first | exact Or.inl (⟨by omega, by omega, by omega⟩) | exact Or.inr ((⟨by omega, by omega, by omega⟩))⟩
          · have _q : True := trivial
            exfalso
            omega
    · have _q : True := trivial
      refine jx_ld (pc' := 38) (l' := L513) (st' := [.int (i32 (A 30 (A 12 (s).toNat).toNat))]) rfl (jl_iloadn gL513_3) ?_
      refine jx_if_ne (pc' := 41) (tg := 57) rfl rfl rfl (by omega) (by omega) (fun h747 => ?_) (fun h747 => ?_)
      · have _q := h747
        have z748 := tz_f (tk2_641)
        exact at_57 L513 G638 A639 (r501) (A 30 (A 12 (s).toNat).toNat) (at2_640) (tk2_641) (fk2_642) (nd2_502) (op2_517) gL513_0 gL513_1 gL513_2 gL513_3 hW643 hF651 ((e645)) ((e646)) ((e647)) (((hF644.1 31 rfl).trans ((hF519.1 31 rfl).trans (e506)))) (((hF644.1 15 rfl).trans (e521))) (((hF644.1 9 rfl).trans ((hF519.1 9 rfl).trans ((hF504.1 9 rfl).trans (e_ln))))) (by omega) (by omega) (by omega) (by omega) (by omega) (by omega) (by omega) (by omega) (by omega) (by omega) (by omega) (by omega)
      · have _q := h747
        refine jx_ld (pc' := 42) (l' := L513) (st' := [.ref 66]) rfl (jl_aloadn gL513_0) ?_
        refine jx_ld (pc' := 43) (l' := L513) (st' := [.ref 66, .ref 66]) rfl (jl_aloadn gL513_0) ?_
        refine jx_ar (pc' := 45) (st' := [.int (i32 (41)), .ref 66, .ref 66]) rfl rfl rfl rfl ?_
        have b749 : (-2147483648 : Int) ≤ G638 13 ∧ G638 13 ≤ 2147483647 := hW643.1 13
        refine jx_vr (pc' := 48) (as := [.int (i32 (41))]) (st := [.ref 66]) rfl rfl rfl rfl ⟨rfl, rfl, Nat.le_of_ble_eq_true rfl⟩ rfl rfl (c_is (dd := d) (hd := by omega) (hW := hW643) (k := 41) (tk := tk2_641) (e_tk := show G638 11 = tk2_641 from (e646)) (tn := G638 13) (e_tn := show G638 13 = G638 13 from rfl)  (h_k := by omega)  ) (fun o V' hq => ?_)
        obtain ⟨r750, rfl, rfl, b751, q752⟩ := hq
        refine .inr ⟨_, rfl, ?_⟩
        rcases q752 with ⟨rfl, a753, a754, a755⟩ | rfl
        · have _q : True := trivial
          refine jx_vr (pc' := 51) (as := [.int (i32 (1))]) (st := []) rfl rfl rfl rfl ⟨rfl, rfl, Nat.le_of_ble_eq_true rfl⟩ rfl rfl (c_need (dd := d) (hd := by omega) (hW := hW643) (g := 1) (ln := ln) (e_ln := show G638 9 = ln from ((hF644.1 9 rfl).trans ((hF519.1 9 rfl).trans ((hF504.1 9 rfl).trans (e_ln))))) (le := le) (e_le := show A639 4 (ln).toNat = le from (congrFun ((hF644.2 4 rfl).trans ((hF519.2 4 rfl).trans (hF504.2 4 rfl))) _).trans (e_le)) (at0 := at2_640) (e_at0 := show G638 10 = at2_640 from (e645)) (fk := fk2_642) (e_fk := show G638 16 = fk2_642 from (e647)) (tk0 := tk2_641) (e_tk0 := show G638 11 = tk2_641 from (e646))  (h_g := by omega)  (p_0 := by omega)) (fun o V' hq => ?_)
          obtain ⟨G756, A757, at2_758, tk2_759, fk2_760, rfl, rfl, hW761, hF762, e763, e764, e765, p766, p767, q768⟩ := hq
          have hF769 := Fr_tr hF651 hF762 (Fr_sub (by decide)) (Fr_sub (by decide))
          have bat2_758 : (0 : Int) ≤ at2_758 ∧ at2_758 ≤ 3002 := e763 ▸ hW761.1 10
          have ztk2_759 := tz_b tk2_759
          have btk2_759 : (0 : Int) ≤ tk2_759 ∧ tk2_759 ≤ 5 := e764 ▸ hW761.1 11
          have bfk2_760 : (0 : Int) ≤ fk2_760 ∧ fk2_760 ≤ 6 := e765 ▸ hW761.1 16
          refine .inl ⟨rfl, ?_⟩
          rcases q768 with ⟨a770, a771, a772, a773⟩ | ⟨a774, a775, a776, a777⟩
          · have _q : True := trivial
            refine jx_ld (pc' := 52) (l' := L513) (st' := [.ref 66]) rfl (jl_aloadn gL513_0) ?_
            refine jx_vr (pc' := 55) (as := []) (st := []) rfl rfl rfl rfl ⟨rfl, rfl, Nat.le_of_ble_eq_true rfl⟩ rfl rfl (c_endLine (dd := d) (hd := by omega) (hW := hW761)  (ln := ln) (e_ln := show G756 9 = ln from ((hF762.1 9 rfl).trans ((hF644.1 9 rfl).trans ((hF519.1 9 rfl).trans ((hF504.1 9 rfl).trans (e_ln)))))) (li := li) (e_li := show G756 3 = li from ((hF762.1 3 rfl).trans ((hF644.1 3 rfl).trans ((hF519.1 3 rfl).trans ((hF504.1 3 rfl).trans (e_li)))))) (fk := fk2_760) (e_fk := show G756 16 = fk2_760 from (e765)) (tk0 := tk2_759) (e_tk0 := show G756 11 = tk2_759 from (e764))    (p_0 := by omega)) (fun o V' hq => ?_)
            obtain ⟨G778, A779, ln2_780, fk2_781, rfl, rfl, hW782, hF783, e784, e785, q786⟩ := hq
            have hF787 := Fr_tr hF769 hF783 (Fr_sub (by decide)) (Fr_sub (by decide))
            have bln2_780 : (0 : Int) ≤ ln2_780 ∧ ln2_780 ≤ 3000 := e784 ▸ hW782.1 9
            have bfk2_781 : (0 : Int) ≤ fk2_781 ∧ fk2_781 ≤ 6 := e785 ▸ hW782.1 16
            refine .inl ⟨rfl, ?_⟩
            rcases q786 with ⟨a788, a789, a790, a791, a792⟩ | ⟨a793, a794⟩
            · have _q : True := trivial
              exfalso
              omega
            · have _q : True := trivial
              refine jx_ld (pc' := 56) (l' := L513) (st' := [.int (i32 (r501))]) rfl (jl_iloadn gL513_2) ?_
              refine jx_rt (v := some (.int (i32 (r501)))) rfl rfl rfl rfl rfl rfl ?_
              exact ⟨_, _, _, at2_758, fk2_781, nd2_502, ln2_780, rfl, rfl, hW782, hF787, by omega, ((hF783.1 10 rfl).trans (e763)), (e785), ((hF783.1 31 rfl).trans ((hF762.1 31 rfl).trans ((hF644.1 31 rfl).trans ((hF519.1 31 rfl).trans (e506))))), (e784), by omega, by omega, by omega, by omega, by omega, by first | exact Or.inl (⟨by omega, by omega, by omega⟩) | exact Or.inr ((⟨by omega, by omega, by omega⟩))⟩
          · have _q : True := trivial
            refine jx_ld (pc' := 52) (l' := L513) (st' := [.ref 66]) rfl (jl_aloadn gL513_0) ?_
            refine jx_vr (pc' := 55) (as := []) (st := []) rfl rfl rfl rfl ⟨rfl, rfl, Nat.le_of_ble_eq_true rfl⟩ rfl rfl (c_endLine (dd := d) (hd := by omega) (hW := hW761)  (ln := ln) (e_ln := show G756 9 = ln from ((hF762.1 9 rfl).trans ((hF644.1 9 rfl).trans ((hF519.1 9 rfl).trans ((hF504.1 9 rfl).trans (e_ln)))))) (li := li) (e_li := show G756 3 = li from ((hF762.1 3 rfl).trans ((hF644.1 3 rfl).trans ((hF519.1 3 rfl).trans ((hF504.1 3 rfl).trans (e_li)))))) (fk := fk2_760) (e_fk := show G756 16 = fk2_760 from (e765)) (tk0 := tk2_759) (e_tk0 := show G756 11 = tk2_759 from (e764))    (p_0 := by omega)) (fun o V' hq => ?_)
            obtain ⟨G795, A796, ln2_797, fk2_798, rfl, rfl, hW799, hF800, e801, e802, q803⟩ := hq
            have hF804 := Fr_tr hF769 hF800 (Fr_sub (by decide)) (Fr_sub (by decide))
            have bln2_797 : (0 : Int) ≤ ln2_797 ∧ ln2_797 ≤ 3000 := e801 ▸ hW799.1 9
            have bfk2_798 : (0 : Int) ≤ fk2_798 ∧ fk2_798 ≤ 6 := e802 ▸ hW799.1 16
            refine .inl ⟨rfl, ?_⟩
            rcases q803 with ⟨a805, a806, a807, a808, a809⟩ | ⟨a810, a811⟩
            · have _q : True := trivial
              refine jx_ld (pc' := 56) (l' := L513) (st' := [.int (i32 (r501))]) rfl (jl_iloadn gL513_2) ?_
              refine jx_rt (v := some (.int (i32 (r501)))) rfl rfl rfl rfl rfl rfl ?_
              exact ⟨_, _, _, at2_758, fk2_798, nd2_502, ln2_797, rfl, rfl, hW799, hF804, by omega, ((hF800.1 10 rfl).trans (e763)), (e802), ((hF800.1 31 rfl).trans ((hF762.1 31 rfl).trans ((hF644.1 31 rfl).trans ((hF519.1 31 rfl).trans (e506))))), (e801), by omega, by omega, by omega, by omega, by omega, by first | exact Or.inl (⟨by omega, by omega, by omega⟩) | exact Or.inr ((⟨by omega, by omega, by omega⟩))⟩
            · have _q : True := trivial
              refine jx_ld (pc' := 56) (l' := L513) (st' := [.int (i32 (r501))]) rfl (jl_iloadn gL513_2) ?_
              refine jx_rt (v := some (.int (i32 (r501)))) rfl rfl rfl rfl rfl rfl ?_
              exact ⟨_, _, _, at2_758, fk2_798, nd2_502, ln2_797, rfl, rfl, hW799, hF804, by omega, ((hF800.1 10 rfl).trans (e763)), (e802), ((hF800.1 31 rfl).trans ((hF762.1 31 rfl).trans ((hF644.1 31 rfl).trans ((hF519.1 31 rfl).trans (e506))))), (e801), by omega, by omega, by omega, by omega, by omega, by first | exact Or.inl (⟨by omega, by omega, by omega⟩) | exact Or.inr ((⟨by omega, by omega, by omega⟩))⟩
        · have _q : True := trivial
          refine jx_vr (pc' := 51) (as := [.int (i32 (0))]) (st := []) rfl rfl rfl rfl ⟨rfl, rfl, Nat.le_of_ble_eq_true rfl⟩ rfl rfl (c_need (dd := d) (hd := by omega) (hW := hW643) (g := 0) (ln := ln) (e_ln := show G638 9 = ln from ((hF644.1 9 rfl).trans ((hF519.1 9 rfl).trans ((hF504.1 9 rfl).trans (e_ln))))) (le := le) (e_le := show A639 4 (ln).toNat = le from (congrFun ((hF644.2 4 rfl).trans ((hF519.2 4 rfl).trans (hF504.2 4 rfl))) _).trans (e_le)) (at0 := at2_640) (e_at0 := show G638 10 = at2_640 from (e645)) (fk := fk2_642) (e_fk := show G638 16 = fk2_642 from (e647)) (tk0 := tk2_641) (e_tk0 := show G638 11 = tk2_641 from (e646))  (h_g := by omega)  (p_0 := by omega)) (fun o V' hq => ?_)
          obtain ⟨G812, A813, at2_814, tk2_815, fk2_816, rfl, rfl, hW817, hF818, e819, e820, e821, p822, p823, q824⟩ := hq
          have hF825 := Fr_tr hF651 hF818 (Fr_sub (by decide)) (Fr_sub (by decide))
          have bat2_814 : (0 : Int) ≤ at2_814 ∧ at2_814 ≤ 3002 := e819 ▸ hW817.1 10
          have ztk2_815 := tz_b tk2_815
          have btk2_815 : (0 : Int) ≤ tk2_815 ∧ tk2_815 ≤ 5 := e820 ▸ hW817.1 11
          have bfk2_816 : (0 : Int) ≤ fk2_816 ∧ fk2_816 ≤ 6 := e821 ▸ hW817.1 16
          refine .inl ⟨rfl, ?_⟩
          rcases q824 with ⟨a826, a827, a828, a829⟩ | ⟨a830, a831, a832, a833⟩
          · have _q : True := trivial
            refine jx_ld (pc' := 52) (l' := L513) (st' := [.ref 66]) rfl (jl_aloadn gL513_0) ?_
            refine jx_vr (pc' := 55) (as := []) (st := []) rfl rfl rfl rfl ⟨rfl, rfl, Nat.le_of_ble_eq_true rfl⟩ rfl rfl (c_endLine (dd := d) (hd := by omega) (hW := hW817)  (ln := ln) (e_ln := show G812 9 = ln from ((hF818.1 9 rfl).trans ((hF644.1 9 rfl).trans ((hF519.1 9 rfl).trans ((hF504.1 9 rfl).trans (e_ln)))))) (li := li) (e_li := show G812 3 = li from ((hF818.1 3 rfl).trans ((hF644.1 3 rfl).trans ((hF519.1 3 rfl).trans ((hF504.1 3 rfl).trans (e_li)))))) (fk := fk2_816) (e_fk := show G812 16 = fk2_816 from (e821)) (tk0 := tk2_815) (e_tk0 := show G812 11 = tk2_815 from (e820))    (p_0 := by omega)) (fun o V' hq => ?_)
            obtain ⟨G834, A835, ln2_836, fk2_837, rfl, rfl, hW838, hF839, e840, e841, q842⟩ := hq
            have hF843 := Fr_tr hF825 hF839 (Fr_sub (by decide)) (Fr_sub (by decide))
            have bln2_836 : (0 : Int) ≤ ln2_836 ∧ ln2_836 ≤ 3000 := e840 ▸ hW838.1 9
            have bfk2_837 : (0 : Int) ≤ fk2_837 ∧ fk2_837 ≤ 6 := e841 ▸ hW838.1 16
            refine .inl ⟨rfl, ?_⟩
            rcases q842 with ⟨a844, a845, a846, a847, a848⟩ | ⟨a849, a850⟩
            · have _q : True := trivial
              exfalso
              omega
            · have _q : True := trivial
              refine jx_ld (pc' := 56) (l' := L513) (st' := [.int (i32 (r501))]) rfl (jl_iloadn gL513_2) ?_
              refine jx_rt (v := some (.int (i32 (r501)))) rfl rfl rfl rfl rfl rfl ?_
              exact ⟨_, _, _, at2_814, fk2_837, nd2_502, ln2_836, rfl, rfl, hW838, hF843, by omega, ((hF839.1 10 rfl).trans (e819)), (e841), ((hF839.1 31 rfl).trans ((hF818.1 31 rfl).trans ((hF644.1 31 rfl).trans ((hF519.1 31 rfl).trans (e506))))), (e840), by omega, by omega, by omega, by omega, by omega, by first | exact Or.inl (⟨by omega, by omega, by omega⟩) | exact Or.inr ((⟨by omega, by omega, by omega⟩))⟩
          · have _q : True := trivial
            exfalso
            omega
