set_option maxRecDepth 20000 in
set_option maxHeartbeats 4000000 in
theorem c_isKey2 {X : jX} {dd : Nat} {c0 c1 : jC} {G : Nat → Int} {A : Nat → Nat → Int} {T : jH} {k : Int} {tk tn : Int} (hd : 1 ≤ dd) (hW : Wk G A) (e_tk : G 11 = tk) (e_tn : G 13 = tn) (h_k : (-2147483648 : Int) ≤ k ∧ k ≤ 2147483647) : wk X dd 267 [.ref 66, .int (i32 k)] (rV c0 c1 G A T) (fun o V_q => ∃ (r : Int), V_q = rV c0 c1 G A T ∧ o = .inl (some (.int (i32 r))) ∧ ((0 : Int) ≤ r ∧ r ≤ 1) ∧ ((r = 1 ∧ (tk = 2) ∧ (tn = k) ∧ (tz tk = 1)) ∨ (r = 0 ∧ (tk ≠ 2 ∨ tn ≠ k)))) := by
  obtain ⟨d, rfl⟩ : ∃ d, dd = d + 1 := ⟨dd - 1, by omega⟩
  refine wk_of (e := jm267) rfl (Nat.le_of_ble_eq_true rfl) ?_
  show wj X d jm267 (0, [(0, .ref 66), (1, .int (i32 (k)))], [], rV c0 c1 G A T) _
  have z_tk := tz_f tk
  have b_tk : (0 : Int) ≤ tk ∧ tk ≤ 5 := e_tk ▸ hW.1 11
  have b_tn : (-2147483648 : Int) ≤ tn ∧ tn ≤ 2147483647 := e_tn ▸ hW.1 13
  refine jx_ld (pc_q := 1) (l_q := [(0, .ref 66), (1, .int (i32 (k)))]) (st_q := [.ref 66]) rfl (jl_aloadn rfl) ?_
  have z1 := tz_f (tk)
  refine jr_get (pc_q := 4) (i := 11) (v := .int (i32 (tk))) rfl rfl (by decide) (rFv_eq (by decide) (show G 11 = tk from (e_tk))) rfl ?_
  refine jx_ar (pc_q := 5) (st_q := [.int (i32 (2)), .int (i32 (tk))]) rfl rfl rfl rfl ?_
  refine jx_icmp_ne (pc_q := 8) (tg := 20) rfl rfl rfl (Int.le_trans (by decide : (-2147483648 : Int) ≤ 0) b_tk.1) (Int.le_trans b_tk.2 (by decide : (5 : Int) ≤ 2147483647)) (by decide) (by decide) (fun h2 => ?_) (fun h2 => ?_)
  · have _q := h2
    refine jx_ar (pc_q := 21) (st_q := [.int (i32 (0))]) rfl rfl rfl rfl ?_
    refine jx_rt (v := some (.int (i32 (0)))) rfl rfl rfl rfl rfl (by first | rfl | exact jRet_b (by omega)) ?_
    exact ⟨_, rfl, rfl, by omega, by first | exact Or.inl (⟨by omega, by omega, by omega, by omega⟩) | exact Or.inr ((⟨by omega, by omega⟩))⟩
  · have _q := h2
    refine jx_ld (pc_q := 9) (l_q := [(0, .ref 66), (1, .int (i32 (k)))]) (st_q := [.ref 66]) rfl (jl_aloadn rfl) ?_
    refine jr_get (pc_q := 12) (i := 13) (v := .int (i32 (tn))) rfl rfl (by decide) (rFv_eq (by decide) (show G 13 = tn from (e_tn))) rfl ?_
    refine jx_ld (pc_q := 13) (l_q := [(0, .ref 66), (1, .int (i32 (k)))]) (st_q := [.int (i32 (k)), .int (i32 (tn))]) rfl (jl_iloadn rfl) ?_
    refine jx_icmp_ne (pc_q := 16) (tg := 20) rfl rfl rfl (Int.le_trans (by decide : (-2147483648 : Int) ≤ -2147483648) b_tn.1) (Int.le_trans b_tn.2 (by decide : (2147483647 : Int) ≤ 2147483647)) (Int.le_trans (by decide : (-2147483648 : Int) ≤ -2147483648) h_k.1) (Int.le_trans h_k.2 (by decide : (2147483647 : Int) ≤ 2147483647)) (fun h3 => ?_) (fun h3 => ?_)
    · have _q := h3
      refine jx_ar (pc_q := 21) (st_q := [.int (i32 (0))]) rfl rfl rfl rfl ?_
      refine jx_rt (v := some (.int (i32 (0)))) rfl rfl rfl rfl rfl (by first | rfl | exact jRet_b (by omega)) ?_
      exact ⟨_, rfl, rfl, by omega, by first | exact Or.inl (⟨by omega, by omega, by omega, by omega⟩) | exact Or.inr ((⟨by omega, by omega⟩))⟩
    · have _q := h3
      refine jx_ar (pc_q := 17) (st_q := [.int (i32 (1))]) rfl rfl rfl rfl ?_
      refine jx_go (tg := 21) rfl rfl ?_
      refine jx_rt (v := some (.int (i32 (1)))) rfl rfl rfl rfl rfl (by first | rfl | exact jRet_b (by omega)) ?_
      exact ⟨_, rfl, rfl, by omega, by first | exact Or.inl (⟨by omega, by omega, by omega, by omega⟩) | exact Or.inr ((⟨by omega, by omega⟩))⟩
