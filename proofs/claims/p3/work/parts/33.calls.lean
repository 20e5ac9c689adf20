set_option maxRecDepth 20000 in
set_option maxHeartbeats 4000000 in
theorem c_addTo {X : jX} {zz : Int} {dd : Nat} {c0 c1 : jC} {G : Nat → Int} {A : Nat → Nat → Int} {T : jH} {n last one : Int} (hd : 1 ≤ dd) (hW : Wk G A) (h_n : (-2147483648 : Int) ≤ n ∧ n ≤ 2147483647) (h_last : (-2147483648 : Int) ≤ last ∧ last ≤ 2147483647) (h_one : (-2147483648 : Int) ≤ one ∧ one ≤ 2147483647) (p_0 : 0 ≤ n ∧ n ≤ 6998) (p_1 : 0 ≤ last ∧ last ≤ 6998) (p_2 : zz ≤ n) (p_3 : last = 0 ∨ zz ≤ last) : wk X dd 300 [.ref 66, .int (i32 n), .int (i32 last), .int (i32 one)] (rV c0 c1 G A T) (fun o V_q => ∃ (G_q : Nat → Int) (A_q : Nat → Nat → Int), V_q = rV c0 c1 G_q A_q T ∧ o = .inl none ∧ Wk G_q A_q ∧ Fr [] [21, 22] G A G_q A_q ∧ Pf zz A A_q ∧ (((last = 0) ∧ (A_q = uA A 21 (n).toNat (one))) ∨ ((1 ≤ last) ∧ (A_q = uA A 22 (last).toNat (one))))) := by
  obtain ⟨d, rfl⟩ : ∃ d, dd = d + 1 := ⟨dd - 1, by omega⟩
  refine wk_of (e := jm300) rfl (Nat.le_of_ble_eq_true rfl) ?_
  show wj X d jm300 (0, [(0, .ref 66), (1, .int (i32 (n))), (2, .int (i32 (last))), (3, .int (i32 (one)))], [], rV c0 c1 G A T) _
  have hF0 : Fr [] [21, 22] G A G A := Fr_rf
  have hP0 : Pf zz A A := Pf_rf
  refine jx_ld (pc_q := 1) (l_q := [(0, .ref 66), (1, .int (i32 (n))), (2, .int (i32 (last))), (3, .int (i32 (one)))]) (st_q := [.int (i32 (last))]) rfl (jl_iloadn rfl) ?_
  refine jx_if_ne (pc_q := 4) (tg := 14) rfl rfl rfl (Int.le_trans (by decide : (-2147483648 : Int) ≤ -2147483648) h_last.1) (Int.le_trans h_last.2 (by decide : (2147483647 : Int) ≤ 2147483647)) (fun h1 => ?_) (fun h1 => ?_)
  · have _q := h1
    refine jx_ld (pc_q := 15) (l_q := [(0, .ref 66), (1, .int (i32 (n))), (2, .int (i32 (last))), (3, .int (i32 (one)))]) (st_q := [.ref 66]) rfl (jl_aloadn rfl) ?_
    refine jr_get (pc_q := 18) (i := 39) (v := .ref 89) rfl rfl (by decide) rfl rfl ?_
    refine jx_ld (pc_q := 19) (l_q := [(0, .ref 66), (1, .int (i32 (n))), (2, .int (i32 (last))), (3, .int (i32 (one)))]) (st_q := [.int (i32 (last)), .ref 89]) rfl (jl_iloadn rfl) ?_
    refine jx_ld (pc_q := 20) (l_q := [(0, .ref 66), (1, .int (i32 (n))), (2, .int (i32 (last))), (3, .int (i32 (one)))]) (st_q := [.int (i32 (one)), .int (i32 (last)), .ref 89]) rfl (jl_iloadn rfl) ?_
    refine jr_st (pc_q := 21) (i := 22) (m := 7000) (z := last) (y := one) rfl (by decide) rfl (by decide) (by omega) (by omega) rfl ?_
    have hW3 : Wk G (uA A 22 (last).toNat (one)) := Wk_a hW (show (-2147483648 : Int) ≤ one by omega) (show one ≤ (2147483647 : Int) by omega)
    have hF4 := Fr_a (z := one) (k := 22) (n := (last).toNat) hF0 (by decide)
    obtain ⟨A2, eA2⟩ : ∃ q, q = uA A 22 (last).toNat (one) := ⟨_, rfl⟩
    rw [← eA2]
    rw [← eA2] at hW3 hF4
    have q5 : A2 22 (last).toNat = one := by rw [eA2]; exact uA_eq
    have hP6 : Pf zz A A2 := eA2 ▸ Pf_a hP0 (z := last) (by omega) (by omega)
    refine jx_rt (v := none) rfl rfl rfl rfl rfl rfl ?_
    exact ⟨_, _, rfl, rfl, hW3, hF4, hP6, by first | exact Or.inr ((⟨by omega, (by first | rfl | exact eA2)⟩))⟩
  · have _q := h1
    refine jx_ld (pc_q := 5) (l_q := [(0, .ref 66), (1, .int (i32 (n))), (2, .int (i32 (last))), (3, .int (i32 (one)))]) (st_q := [.ref 66]) rfl (jl_aloadn rfl) ?_
    refine jr_get (pc_q := 8) (i := 38) (v := .ref 88) rfl rfl (by decide) rfl rfl ?_
    refine jx_ld (pc_q := 9) (l_q := [(0, .ref 66), (1, .int (i32 (n))), (2, .int (i32 (last))), (3, .int (i32 (one)))]) (st_q := [.int (i32 (n)), .ref 88]) rfl (jl_iloadn rfl) ?_
    refine jx_ld (pc_q := 10) (l_q := [(0, .ref 66), (1, .int (i32 (n))), (2, .int (i32 (last))), (3, .int (i32 (one)))]) (st_q := [.int (i32 (one)), .int (i32 (n)), .ref 88]) rfl (jl_iloadn rfl) ?_
    refine jr_st (pc_q := 11) (i := 21) (m := 7000) (z := n) (y := one) rfl (by decide) rfl (by decide) (by omega) (by omega) rfl ?_
    have hW8 : Wk G (uA A 21 (n).toNat (one)) := Wk_a hW (show (-2147483648 : Int) ≤ one by omega) (show one ≤ (2147483647 : Int) by omega)
    have hF9 := Fr_a (z := one) (k := 21) (n := (n).toNat) hF0 (by decide)
    obtain ⟨A7, eA7⟩ : ∃ q, q = uA A 21 (n).toNat (one) := ⟨_, rfl⟩
    rw [← eA7]
    rw [← eA7] at hW8 hF9
    have q10 : A7 21 (n).toNat = one := by rw [eA7]; exact uA_eq
    have hP11 : Pf zz A A7 := eA7 ▸ Pf_a hP0 (z := n) (by omega) (by omega)
    refine jx_go (tg := 21) rfl rfl ?_
    refine jx_rt (v := none) rfl rfl rfl rfl rfl rfl ?_
    exact ⟨_, _, rfl, rfl, hW8, hF9, hP11, by first | exact Or.inl (⟨by omega, (by first | rfl | exact eA7)⟩)⟩
