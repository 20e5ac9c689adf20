set_option maxRecDepth 20000 in
set_option maxHeartbeats 4000000 in
theorem c_bare_at_2 {X : jX} {d : Nat} {Vs : Nat → Prop} {sb : Int} {k : Nat} {c0 c1 : jC} {G : Nat → Int} {A : Nat → Nat → Int} {T : jH} {e : Int} {lo hi : Int} (hd : 1 ≤ d + 1) (hW : Wk G A) (h_e : (-2147483648 : Int) ≤ e ∧ e ≤ 2147483647) (p_0 : 0 ≤ lo) (p_1 : hi ≤ 6999) (p_2 : k ≤ 30) (p_3 : wE A Vs sb (k) (e) (lo) (hi)) : ∀ (F : Nat) (L : jL) (x : Int), jGet L 0 = some (.ref 66) → jGet L 1 = some (.int (i32 (e))) → jGet L 2 = some (.int (i32 x)) → ((-2147483648 : Int) ≤ x ∧ x ≤ 2147483647) → (bK A 30 e = bK A F x) → (lo ≤ x) → (x < hi) → (wE A Vs sb (F) (x) (lo) (hi)) → wj X d jm315 (2, L, [], rV c0 c1 G A T) (fun o V_q => ∃ (r : Int), V_q = rV c0 c1 G A T ∧ o = .inl (some (.int (i32 r))) ∧ ((-2147483648 : Int) ≤ r ∧ r ≤ 2147483647) ∧ (r = bK A 30 e) ∧ (lo ≤ r) ∧ (r < hi) ∧ True) := by
  have hbk := bK_n p_3 (show k ≤ 30 by omega)
  have hin := wE_in p_3
  intro F
  induction F using Nat.strongRecOn with
  | ind F ih2 =>
    intro L x gL_0 gL_1 gL_2 rx_x iv_0 iv_1 iv_2 iv_3
    refine jx_ld (pc_q := 3) (l_q := L) (st_q := [.ref 66]) rfl (jl_aloadn gL_0) ?_
    refine jr_get (pc_q := 6) (i := 32) (v := .ref 82) rfl rfl (by decide) rfl rfl ?_
    refine jx_ld (pc_q := 7) (l_q := L) (st_q := [.int (i32 (x)), .ref 82]) rfl (jl_iloadn gL_2) ?_
    have b1 : (0 : Int) ≤ A 15 (x).toNat ∧ A 15 (x).toNat ≤ 34 := hW.2 15 _
    refine jr_ldv (pc_q := 8) (i := 15) (m := 7000) (z := x) (y := A 15 (x).toNat) rfl (by decide) rfl (by decide) (by omega) (by omega) rfl (show A 15 (x).toNat = A 15 (x).toNat from rfl) ?_
    refine jx_ar (pc_q := 10) (st_q := [.int (i32 (7)), .int (i32 (A 15 (x).toNat))]) rfl rfl rfl rfl ?_
    refine jx_icmp_ne (pc_q := 13) (tg := 23) rfl rfl rfl (Int.le_trans (by decide : (-2147483648 : Int) ≤ 0) b1.1) (Int.le_trans b1.2 (by decide : (34 : Int) ≤ 2147483647)) (by decide) (by decide) (fun h2 => ?_) (fun h2 => ?_)
    · have _q := h2
      have hb8 := bK_x (A := A) (n := F) (e := x) (by omega)
      refine jx_ld (pc_q := 24) (l_q := L) (st_q := [.int (i32 (x))]) rfl (jl_iloadn gL_2) ?_
      refine jx_rt (v := some (.int (i32 (x)))) rfl rfl rfl rfl rfl rfl ?_
      exact ⟨_, rfl, rfl, by omega, by omega, by omega, by omega, trivial⟩
    · have _q := h2
      obtain ⟨F1, rfl⟩ := wE_pos iv_3; have hi7 := wE_i5 iv_3 (.inr (.inr (by omega))); have hb7 := bK_y (A := A) (n := F1) (e := x) (by omega); have hn7 := wE_in hi7
      refine jx_ld (pc_q := 14) (l_q := L) (st_q := [.ref 66]) rfl (jl_aloadn gL_0) ?_
      refine jr_get (pc_q := 17) (i := 34) (v := .ref 84) rfl rfl (by decide) rfl rfl ?_
      refine jx_ld (pc_q := 18) (l_q := L) (st_q := [.int (i32 (x)), .ref 84]) rfl (jl_iloadn gL_2) ?_
      have b3 : (-2147483648 : Int) ≤ A 17 (x).toNat ∧ A 17 (x).toNat ≤ 2147483647 := hW.2 17 _
      refine jr_ldv (pc_q := 19) (i := 17) (m := 7000) (z := x) (y := A 17 (x).toNat) rfl (by decide) rfl (by decide) (by omega) (by omega) rfl (show A 17 (x).toNat = A 17 (x).toNat from rfl) ?_
      refine jx_ld (pc_q := 20) (l_q := jSto1 L 2 (.int (i32 (A 17 (x).toNat)))) (st_q := []) rfl rfl ?_
      obtain ⟨L4, eL4⟩ : ∃ q, q = jSto1 L 2 (.int (i32 (A 17 (x).toNat))) := ⟨_, rfl⟩
      rw [← eL4]
      have gL4_0 : jGet L4 0 = some (.ref 66) := eL4 ▸ jg_ne (by decide) gL_0 rfl
      have gL4_1 : jGet L4 1 = some (.int (i32 (e))) := eL4 ▸ jg_ne (by decide) gL_1 rfl
      have gL4_2 : jGet L4 2 = some (.int (i32 (A 17 (x).toNat))) := eL4 ▸ jg_eq
      refine jx_go (tg := 2) rfl rfl ?_
      exact ih2 (F1) (by omega) L4 (A 17 (x).toNat) gL4_0 gL4_1 gL4_2 (by omega) (by omega) (by omega) (by omega) ((wE_mono (by omega) (by omega) (by omega) hi7))
set_option maxRecDepth 20000 in
set_option maxHeartbeats 4000000 in
theorem c_bare {X : jX} {dd : Nat} {Vs : Nat → Prop} {sb : Int} {k : Nat} {c0 c1 : jC} {G : Nat → Int} {A : Nat → Nat → Int} {T : jH} {e : Int} {lo hi : Int} (hd : 1 ≤ dd) (hW : Wk G A) (h_e : (-2147483648 : Int) ≤ e ∧ e ≤ 2147483647) (p_0 : 0 ≤ lo) (p_1 : hi ≤ 6999) (p_2 : k ≤ 30) (p_3 : wE A Vs sb (k) (e) (lo) (hi)) : wk X dd 315 [.ref 66, .int (i32 e)] (rV c0 c1 G A T) (fun o V_q => ∃ (r : Int), V_q = rV c0 c1 G A T ∧ o = .inl (some (.int (i32 r))) ∧ ((-2147483648 : Int) ≤ r ∧ r ≤ 2147483647) ∧ (r = bK A 30 e) ∧ (lo ≤ r) ∧ (r < hi) ∧ True) := by
  obtain ⟨d, rfl⟩ : ∃ d, dd = d + 1 := ⟨dd - 1, by omega⟩
  refine wk_of (e := jm315) rfl (Nat.le_of_ble_eq_true rfl) ?_
  show wj X d jm315 (0, [(0, .ref 66), (1, .int (i32 (e)))], [], rV c0 c1 G A T) _
  have hbk := bK_n p_3 (show k ≤ 30 by omega)
  have hin := wE_in p_3
  refine jx_ld (pc_q := 1) (l_q := [(0, .ref 66), (1, .int (i32 (e)))]) (st_q := [.int (i32 (e))]) rfl (jl_iloadn rfl) ?_
  refine jx_ld (pc_q := 2) (l_q := jSto1 [(0, .ref 66), (1, .int (i32 (e)))] 2 (.int (i32 (e)))) (st_q := []) rfl rfl ?_
  obtain ⟨L5, eL5⟩ : ∃ q, q = jSto1 [(0, .ref 66), (1, .int (i32 (e)))] 2 (.int (i32 (e))) := ⟨_, rfl⟩
  rw [← eL5]
  have gL5_0 : jGet L5 0 = some (.ref 66) := eL5 ▸ jg_ne (by decide) (rfl : jGet [(0, .ref 66), (1, .int (i32 (e)))] 0 = some (.ref 66)) rfl
  have gL5_1 : jGet L5 1 = some (.int (i32 (e))) := eL5 ▸ jg_ne (by decide) (rfl : jGet [(0, .ref 66), (1, .int (i32 (e)))] 1 = some (.int (i32 (e)))) rfl
  have gL5_2 : jGet L5 2 = some (.int (i32 (e))) := eL5 ▸ jg_eq
  exact c_bare_at_2 (X := X) (d := d) (Vs := Vs) (sb := sb) (k := k) (c0 := c0) (c1 := c1) (G := G) (A := A) (T := T) (e := e) (lo := lo) (hi := hi) (hd := hd) (hW := hW) (h_e := h_e) (p_0 := p_0) (p_1 := p_1) (p_2 := p_2) (p_3 := p_3) (k) L5 (e) gL5_0 gL5_1 gL5_2 (by omega) (by omega) (by omega) (by omega) ((wE_mono (by omega) (by omega) (by omega) p_3))
set_option maxRecDepth 20000 in
set_option maxHeartbeats 4000000 in
theorem c_isPlain2 {X : jX} {dd : Nat} {V : jH} {k : Int} (hd : 1 ≤ dd) (h_k : (-2147483648 : Int) ≤ k ∧ k ≤ 2147483647) : wk X dd 314 [.int (i32 k)] V (fun o V_q => ∃ (r : Int), V_q = V ∧ o = .inl (some (.int (i32 r))) ∧ ((0 : Int) ≤ r ∧ r ≤ 1) ∧ ((r = 1 ∧ (k = 1 ∨ k = 2)) ∨ (r = 0 ∧ (k ≠ 1) ∧ (k ≠ 2)))) := by
  obtain ⟨d, rfl⟩ : ∃ d, dd = d + 1 := ⟨dd - 1, by omega⟩
  refine wk_of (e := jm314) rfl (Nat.le_of_ble_eq_true rfl) ?_
  show wj X d jm314 (0, [(0, .int (i32 (k)))], [], V) _
  refine jx_ld (pc_q := 1) (l_q := [(0, .int (i32 (k)))]) (st_q := [.int (i32 (k))]) rfl (jl_iloadn rfl) ?_
  refine jx_ar (pc_q := 2) (st_q := [.int (i32 (1)), .int (i32 (k))]) rfl rfl rfl rfl ?_
  refine jx_icmp_eq (pc_q := 5) (tg := 10) rfl rfl rfl (Int.le_trans (by decide : (-2147483648 : Int) ≤ -2147483648) h_k.1) (Int.le_trans h_k.2 (by decide : (2147483647 : Int) ≤ 2147483647)) (by decide) (by decide) (fun h1 => ?_) (fun h1 => ?_)
  · have _q := h1
    refine jx_ar (pc_q := 11) (st_q := [.int (i32 (1))]) rfl rfl rfl rfl ?_
    refine jx_go (tg := 15) rfl rfl ?_
    refine jx_rt (v := some (.int (i32 (1)))) rfl rfl rfl rfl rfl (by first | rfl | exact jRet_b (by omega)) ?_
    exact ⟨_, rfl, rfl, by omega, by first | exact Or.inl (⟨by omega, by omega⟩) | exact Or.inr ((⟨by omega, by omega, by omega⟩))⟩
  · have _q := h1
    refine jx_ld (pc_q := 6) (l_q := [(0, .int (i32 (k)))]) (st_q := [.int (i32 (k))]) rfl (jl_iloadn rfl) ?_
    refine jx_ar (pc_q := 7) (st_q := [.int (i32 (2)), .int (i32 (k))]) rfl rfl rfl rfl ?_
    refine jx_icmp_ne (pc_q := 10) (tg := 14) rfl rfl rfl (Int.le_trans (by decide : (-2147483648 : Int) ≤ -2147483648) h_k.1) (Int.le_trans h_k.2 (by decide : (2147483647 : Int) ≤ 2147483647)) (by decide) (by decide) (fun h2 => ?_) (fun h2 => ?_)
    · have _q := h2
      refine jx_ar (pc_q := 15) (st_q := [.int (i32 (0))]) rfl rfl rfl rfl ?_
      refine jx_rt (v := some (.int (i32 (0)))) rfl rfl rfl rfl rfl (by first | rfl | exact jRet_b (by omega)) ?_
      exact ⟨_, rfl, rfl, by omega, by first | exact Or.inl (⟨by omega, by omega⟩) | exact Or.inr ((⟨by omega, by omega, by omega⟩))⟩
    · have _q := h2
      refine jx_ar (pc_q := 11) (st_q := [.int (i32 (1))]) rfl rfl rfl rfl ?_
      refine jx_go (tg := 15) rfl rfl ?_
      refine jx_rt (v := some (.int (i32 (1)))) rfl rfl rfl rfl rfl (by first | rfl | exact jRet_b (by omega)) ?_
      exact ⟨_, rfl, rfl, by omega, by first | exact Or.inl (⟨by omega, by omega⟩) | exact Or.inr ((⟨by omega, by omega, by omega⟩))⟩
set_option maxRecDepth 20000 in
set_option maxHeartbeats 4000000 in
theorem c_reach {X : jX} {dd : Nat} {c0 c1 : jC} {G : Nat → Int} {A : Nat → Nat → Int} {T : jH} {free : Int} {mo : Int} (hd : 1 ≤ dd) (hW : Wk G A) (e_mo : G 59 = mo) (h_free : (-2147483648 : Int) ≤ free ∧ free ≤ 2147483647) (p_0 : free ≤ 1000000) (p_1 : mo ≤ 1000000) : wk X dd 313 [.ref 66, .int (i32 free)] (rV c0 c1 G A T) (fun o V_q => ∃ (G_q : Nat → Int) (A_q : Nat → Nat → Int) (mo2 : Int), V_q = rV c0 c1 G_q A_q T ∧ o = .inl none ∧ Wk G_q A_q ∧ Fr [59] [] G A G_q A_q ∧ G_q 59 = mo2 ∧ (mo ≤ mo2) ∧ (free ≤ mo2) ∧ (mo2 ≤ 1000000) ∧ True) := by
  obtain ⟨d, rfl⟩ : ∃ d, dd = d + 1 := ⟨dd - 1, by omega⟩
  refine wk_of (e := jm313) rfl (Nat.le_of_ble_eq_true rfl) ?_
  show wj X d jm313 (0, [(0, .ref 66), (1, .int (i32 (free)))], [], rV c0 c1 G A T) _
  have hF0 : Fr [59] [] G A G A := Fr_rf
  have b_mo : (-2147483648 : Int) ≤ mo ∧ mo ≤ 2147483647 := e_mo ▸ hW.1 59
  refine jx_ld (pc_q := 1) (l_q := [(0, .ref 66), (1, .int (i32 (free)))]) (st_q := [.ref 66]) rfl (jl_aloadn rfl) ?_
  refine jx_ld (pc_q := 2) (l_q := [(0, .ref 66), (1, .int (i32 (free)))]) (st_q := [.int (i32 (free)), .ref 66]) rfl (jl_iloadn rfl) ?_
  refine jx_ld (pc_q := 3) (l_q := [(0, .ref 66), (1, .int (i32 (free)))]) (st_q := [.ref 66, .int (i32 (free)), .ref 66]) rfl (jl_aloadn rfl) ?_
  refine jr_get (pc_q := 6) (i := 59) (v := .int (i32 (mo))) rfl rfl (by decide) (rFv_eq (by decide) (show G 59 = mo from (e_mo))) rfl ?_
  refine jx_icmp_le (pc_q := 9) (tg := 13) rfl rfl rfl (Int.le_trans (by decide : (-2147483648 : Int) ≤ -2147483648) h_free.1) (Int.le_trans h_free.2 (by decide : (2147483647 : Int) ≤ 2147483647)) (Int.le_trans (by decide : (-2147483648 : Int) ≤ -2147483648) b_mo.1) (Int.le_trans b_mo.2 (by decide : (2147483647 : Int) ≤ 2147483647)) (fun h1 => ?_) (fun h1 => ?_)
  · have _q := h1
    refine jx_ld (pc_q := 14) (l_q := [(0, .ref 66), (1, .int (i32 (free)))]) (st_q := [.ref 66, .ref 66]) rfl (jl_aloadn rfl) ?_
    refine jr_get (pc_q := 17) (i := 59) (v := .int (i32 (mo))) rfl rfl (by decide) (rFv_eq (by decide) (show G 59 = mo from (e_mo))) rfl ?_
    refine jr_put (pc_q := 20) (i := 59) (z := mo) rfl rfl (by decide) rfl rfl rfl rfl rfl rfl ?_
    have hW2 : Wk (uG G 59 (mo)) A := Wk_g hW (show (-2147483648 : Int) ≤ mo by omega) (show mo ≤ (2147483647 : Int) by omega)
    have hF3 := Fr_g (z := mo) (i := 59) hF0 (by decide)
    refine jx_rt (v := none) rfl rfl rfl rfl rfl rfl ?_
    exact ⟨_, _, mo, rfl, rfl, hW2, hF3, rfl, by omega, by omega, by omega, trivial⟩
  · have _q := h1
    refine jx_ld (pc_q := 10) (l_q := [(0, .ref 66), (1, .int (i32 (free)))]) (st_q := [.int (i32 (free)), .ref 66]) rfl (jl_iloadn rfl) ?_
    refine jx_go (tg := 17) rfl rfl ?_
    refine jr_put (pc_q := 20) (i := 59) (z := free) rfl rfl (by decide) rfl rfl rfl rfl rfl rfl ?_
    have hW4 : Wk (uG G 59 (free)) A := Wk_g hW (show (-2147483648 : Int) ≤ free by omega) (show free ≤ (2147483647 : Int) by omega)
    have hF5 := Fr_g (z := free) (i := 59) hF0 (by decide)
    refine jx_rt (v := none) rfl rfl rfl rfl rfl rfl ?_
    exact ⟨_, _, free, rfl, rfl, hW4, hF5, rfl, by omega, by omega, by omega, trivial⟩
set_option maxRecDepth 20000 in
set_option maxHeartbeats 4000000 in
theorem c_capped {X : jX} {dd : Nat} {V : jH} {v : Int} (hd : 1 ≤ dd) (h_v : (-9000000000000 : Int) ≤ v ∧ v ≤ 9000000000000) (p_0 : 0 ≤ v) : wk X dd 318 [.long (i64 v)] V (fun o V_q => ∃ (r : Int), V_q = V ∧ o = .inl (some (.int (i32 r))) ∧ ((-2147483648 : Int) ≤ r ∧ r ≤ 2147483647) ∧ (((r = v) ∧ (v ≤ 1000000)) ∨ ((r = 1000000) ∧ (1000000 < v)))) := by
  obtain ⟨d, rfl⟩ : ∃ d, dd = d + 1 := ⟨dd - 1, by omega⟩
  refine wk_of (e := jm318) rfl (Nat.le_of_ble_eq_true rfl) ?_
  show wj X d jm318 (0, [(0, .long (i64 (v)))], [], V) _
  refine jx_ld (pc_q := 1) (l_q := [(0, .long (i64 (v)))]) (st_q := [.long (i64 (v))]) rfl (jl_lloadn rfl) ?_
  refine jx_hp (pc_q := 4) (st_q := [.long (i64 (1000000)), .long (i64 (v))]) rfl rfl rfl rfl rfl rfl ?_
  refine jx_ncmp (pc_q := 5) rfl rfl (by omega) (by omega) (by omega) (by omega) (fun r1 hr1 => ?_)
  refine jx_if_le (pc_q := 8) (tg := 14) rfl rfl rfl (by omega) (by omega) (fun h2 => ?_) (fun h2 => ?_)
  · have _q := h2
    refine jx_ld (pc_q := 15) (l_q := [(0, .long (i64 (v)))]) (st_q := [.long (i64 (v))]) rfl (jl_lloadn rfl) ?_
    refine jx_n2i (pc_q := 16) rfl rfl (by omega) (by omega) ?_
    refine jx_rt (v := some (.int (i32 (v)))) rfl rfl rfl rfl rfl rfl ?_
    exact ⟨_, rfl, rfl, by omega, by first | exact Or.inl (⟨by omega, by omega⟩) | exact Or.inr ((⟨by omega, by omega⟩))⟩
  · have _q := h2
    refine jx_hp (pc_q := 11) (st_q := [.int (i32 (1000000))]) rfl rfl rfl rfl rfl rfl ?_
    refine jx_go (tg := 16) rfl rfl ?_
    refine jx_rt (v := some (.int (i32 (1000000)))) rfl rfl rfl rfl rfl rfl ?_
    exact ⟨_, rfl, rfl, by omega, by first | exact Or.inl (⟨by omega, by omega⟩) | exact Or.inr ((⟨by omega, by omega⟩))⟩
set_option maxRecDepth 20000 in
set_option maxHeartbeats 4000000 in
theorem c_max {X : jX} {dd : Nat} {V : jH} {a b : Int} (hd : 1 ≤ dd) (h_a : (-2147483648 : Int) ≤ a ∧ a ≤ 2147483647) (h_b : (-2147483648 : Int) ≤ b ∧ b ≤ 2147483647) : wk X dd 413 [.int (i32 a), .int (i32 b)] V (fun o V_q => ∃ (r : Int), V_q = V ∧ o = .inl (some (.int (i32 r))) ∧ ((-2147483648 : Int) ≤ r ∧ r ≤ 2147483647) ∧ (((r = a) ∧ (b ≤ a)) ∨ ((r = b) ∧ (a < b)))) := by
  obtain ⟨d, rfl⟩ : ∃ d, dd = d + 1 := ⟨dd - 1, by omega⟩
  refine wk_of (e := jm413) rfl (Nat.le_of_ble_eq_true rfl) ?_
  show wj X d jm413 (0, [(0, .int (i32 (a))), (1, .int (i32 (b)))], [], V) _
  refine jx_ld (pc_q := 1) (l_q := [(0, .int (i32 (a))), (1, .int (i32 (b)))]) (st_q := [.int (i32 (a))]) rfl (jl_iloadn rfl) ?_
  refine jx_ld (pc_q := 2) (l_q := [(0, .int (i32 (a))), (1, .int (i32 (b)))]) (st_q := [.int (i32 (b)), .int (i32 (a))]) rfl (jl_iloadn rfl) ?_
  refine jx_icmp_lt (pc_q := 5) (tg := 9) rfl rfl rfl (Int.le_trans (by decide : (-2147483648 : Int) ≤ -2147483648) h_a.1) (Int.le_trans h_a.2 (by decide : (2147483647 : Int) ≤ 2147483647)) (Int.le_trans (by decide : (-2147483648 : Int) ≤ -2147483648) h_b.1) (Int.le_trans h_b.2 (by decide : (2147483647 : Int) ≤ 2147483647)) (fun h1 => ?_) (fun h1 => ?_)
  · have _q := h1
    refine jx_ld (pc_q := 10) (l_q := [(0, .int (i32 (a))), (1, .int (i32 (b)))]) (st_q := [.int (i32 (b))]) rfl (jl_iloadn rfl) ?_
    refine jx_rt (v := some (.int (i32 (b)))) rfl rfl rfl rfl rfl rfl ?_
    exact ⟨_, rfl, rfl, by omega, by first | exact Or.inl (⟨by omega, by omega⟩) | exact Or.inr ((⟨by omega, by omega⟩))⟩
  · have _q := h1
    refine jx_ld (pc_q := 6) (l_q := [(0, .int (i32 (a))), (1, .int (i32 (b)))]) (st_q := [.int (i32 (a))]) rfl (jl_iloadn rfl) ?_
    refine jx_go (tg := 10) rfl rfl ?_
    refine jx_rt (v := some (.int (i32 (a)))) rfl rfl rfl rfl rfl rfl ?_
    exact ⟨_, rfl, rfl, by omega, by first | exact Or.inl (⟨by omega, by omega⟩) | exact Or.inr ((⟨by omega, by omega⟩))⟩
def ME (X : jX) (k : Nat) : Prop := ∀ ⦃dd : Nat⦄ ⦃Vs : Nat → Prop⦄ ⦃sb : Int⦄ ⦃c0 c1 : jC⦄ ⦃G : Nat → Int⦄ ⦃A : Nat → Nat → Int⦄ ⦃T : jH⦄ ⦃e free : Int⦄ ⦃lo hi : Int⦄ ⦃mo : Int⦄ (hd : k + 3 ≤ dd) (hW : Wk G A) (e_mo : G 59 = mo) (h_e : (-2147483648 : Int) ≤ e ∧ e ≤ 2147483647) (h_free : (-2147483648 : Int) ≤ free ∧ free ≤ 2147483647) (p_0 : 0 ≤ lo) (p_1 : hi ≤ 6999) (p_2 : 0 ≤ free) (p_3 : free + (k : Int) ≤ 900000) (p_4 : mo ≤ 1000000) (p_5 : wE A Vs sb (k) (e) (lo) (hi)) (p_6 : (k : Int) ≤ 30), wk X dd 316 [.ref 66, .int (i32 e), .int (i32 free)] (rV c0 c1 G A T) (fun o V_q => ∃ (G_q : Nat → Int) (A_q : Nat → Nat → Int) (mo2 : Int), V_q = rV c0 c1 G_q A_q T ∧ o = .inl none ∧ Wk G_q A_q ∧ Fr [59] [25] G A G_q A_q ∧ Fo [25, 26, 27] (lo) (hi) A A_q ∧ G_q 59 = mo2 ∧ (mo ≤ mo2) ∧ (mo2 ≤ 1000000) ∧ (lE A_q (k) (e) (free) (mo2)) ∧ True)
set_option maxRecDepth 20000 in
set_option maxHeartbeats 4000000 in
theorem c_measureE_s {X : jX} {k : Nat} (hE : ME X k) {dd : Nat} {Vs : Nat → Prop} {sb : Int} {c0 c1 : jC} {G : Nat → Int} {A : Nat → Nat → Int} {T : jH} {e free : Int} {lo hi : Int} {mo : Int} (hd : k + 1 + 3 ≤ dd) (hW : Wk G A) (e_mo : G 59 = mo) (h_e : (-2147483648 : Int) ≤ e ∧ e ≤ 2147483647) (h_free : (-2147483648 : Int) ≤ free ∧ free ≤ 2147483647) (p_0 : 0 ≤ lo) (p_1 : hi ≤ 6999) (p_2 : 0 ≤ free) (p_3 : free + ((k + 1 : Nat) : Int) ≤ 900000) (p_4 : mo ≤ 1000000) (p_5 : wE A Vs sb (k + 1) (e) (lo) (hi)) (p_6 : ((k + 1 : Nat) : Int) ≤ 30) : wk X dd 316 [.ref 66, .int (i32 e), .int (i32 free)] (rV c0 c1 G A T) (fun o V_q => ∃ (G_q : Nat → Int) (A_q : Nat → Nat → Int) (mo2 : Int), V_q = rV c0 c1 G_q A_q T ∧ o = .inl none ∧ Wk G_q A_q ∧ Fr [59] [25] G A G_q A_q ∧ Fo [25, 26, 27] (lo) (hi) A A_q ∧ G_q 59 = mo2 ∧ (mo ≤ mo2) ∧ (mo2 ≤ 1000000) ∧ (lE A_q (k + 1) (e) (free) (mo2)) ∧ True) := by
  obtain ⟨d, rfl⟩ : ∃ d, dd = d + 1 := ⟨dd - 1, by omega⟩
  refine wk_of (e := jm316) rfl (Nat.le_of_ble_eq_true rfl) ?_
  show wj X d jm316 (0, [(0, .ref 66), (1, .int (i32 (e))), (2, .int (i32 (free)))], [], rV c0 c1 G A T) _
  have hF0 : Fr [59] [25] G A G A := Fr_rf
  have hO0 : Fo [25, 26, 27] (lo) (hi) A A := Fo_rf
  have b_mo : (-2147483648 : Int) ≤ mo ∧ mo ≤ 2147483647 := e_mo ▸ hW.1 59
  have hkd := wE_kd p_5
  refine jx_ld (pc_q := 1) (l_q := [(0, .ref 66), (1, .int (i32 (e))), (2, .int (i32 (free)))]) (st_q := [.ref 66]) rfl (jl_aloadn rfl) ?_
  refine jr_get (pc_q := 4) (i := 32) (v := .ref 82) rfl rfl (by decide) rfl rfl ?_
  refine jx_ld (pc_q := 5) (l_q := [(0, .ref 66), (1, .int (i32 (e))), (2, .int (i32 (free)))]) (st_q := [.int (i32 (e)), .ref 82]) rfl (jl_iloadn rfl) ?_
  have b1 : (0 : Int) ≤ A 15 (e).toNat ∧ A 15 (e).toNat ≤ 34 := hW.2 15 _
  refine jr_ldv (pc_q := 6) (i := 15) (m := 7000) (z := e) (y := A 15 (e).toNat) rfl (by decide) rfl (by decide) (by omega) (by omega) rfl (show A 15 (e).toNat = A 15 (e).toNat from rfl) ?_
  rcases (by omega : A 15 (e).toNat = 3 ∨ A 15 (e).toNat = 4 ∨ A 15 (e).toNat = 5 ∨ A 15 (e).toNat = 6 ∨ A 15 (e).toNat = 7 ∨ (A 15 (e).toNat < 3 ∨ 7 < A 15 (e).toNat)) with h2 | h2 | h2 | h2 | h2 | h2
  · refine jx_swe (z := 3) (tg := 40) h2 rfl rfl rfl rfl ?_
    have hq3 := wE_i3 p_5 (by omega)
    refine jx_ld (pc_q := 41) (l_q := [(0, .ref 66), (1, .int (i32 (e))), (2, .int (i32 (free)))]) (st_q := [.ref 66]) rfl (jl_aloadn rfl) ?_
    refine jx_ld (pc_q := 42) (l_q := [(0, .ref 66), (1, .int (i32 (e))), (2, .int (i32 (free)))]) (st_q := [.ref 66, .ref 66]) rfl (jl_aloadn rfl) ?_
    refine jr_get (pc_q := 45) (i := 35) (v := .ref 85) rfl rfl (by decide) rfl rfl ?_
    refine jx_ld (pc_q := 46) (l_q := [(0, .ref 66), (1, .int (i32 (e))), (2, .int (i32 (free)))]) (st_q := [.int (i32 (e)), .ref 85, .ref 66]) rfl (jl_iloadn rfl) ?_
    have b3 : (-2147483648 : Int) ≤ A 18 (e).toNat ∧ A 18 (e).toNat ≤ 2147483647 := hW.2 18 _
    refine jr_ldv (pc_q := 47) (i := 18) (m := 7000) (z := e) (y := A 18 (e).toNat) rfl (by decide) rfl (by decide) (by omega) (by omega) rfl (show A 18 (e).toNat = A 18 (e).toNat from rfl) ?_
    refine jx_ld (pc_q := 48) (l_q := [(0, .ref 66), (1, .int (i32 (e))), (2, .int (i32 (free)))]) (st_q := [.int (i32 (free)), .int (i32 (A 18 (e).toNat)), .ref 66]) rfl (jl_iloadn rfl) ?_
    refine jx_vr (pc_q := 51) (as := [.int (i32 (A 18 (e).toNat)), .int (i32 (free))]) (st := []) rfl rfl rfl rfl ⟨rfl, rfl, Nat.le_of_ble_eq_true rfl⟩ rfl rfl (hE (dd := d) (hd := by omega) (hW := hW) (e := A 18 (e).toNat) (free := free) (lo := lo) (hi := e) (mo := mo) (e_mo := show G 59 = mo from (e_mo))  (h_e := ⟨(Int.le_trans (by decide : (-2147483648 : Int) ≤ -2147483648) b3.1), (Int.le_trans b3.2 (by decide : (2147483647 : Int) ≤ 2147483647))⟩) (h_free := ⟨(Int.le_trans (by decide : (-2147483648 : Int) ≤ -2147483648) h_free.1), (Int.le_trans h_free.2 (by decide : (2147483647 : Int) ≤ 2147483647))⟩)  (p_0 := by omega) (p_1 := by omega) (p_2 := by omega) (p_3 := by omega) (p_4 := by omega) (p_5 := (wE_mono (by omega) (by omega) (by omega) hq3.2.2)) (p_6 := by omega)) (fun o V_q hq => ?_)
    obtain ⟨G4, A5, mo2_6, rfl, rfl, hW7, hF8, hQ9, e10, p11, p12, p13, -⟩ := hq
    have hF15 := Fr_tr hF0 hF8 (Fr_sub (by decide)) (Fr_sub (by decide))
    have hO16 := Fo_tr hO0 hQ9 (by omega) (by omega)
    have bmo2_6 : (-2147483648 : Int) ≤ mo2_6 ∧ mo2_6 ≤ 2147483647 := e10 ▸ hW7.1 59
    refine .inl ⟨rfl, ?_⟩
    refine jx_go (tg := 177) rfl rfl ?_
    refine jx_rt (v := none) rfl rfl rfl rfl rfl rfl ?_
    exact ⟨_, _, mo2_6, rfl, rfl, hW7, hF15, hO16, (e10), by omega, by omega, (lE_k3 (show A5 15 (e).toNat = A 15 (e).toNat from (congrFun (hF8.2 15 rfl) _)) (show A5 18 (e).toNat = A 18 (e).toNat from (congrFun (hF8.2 18 rfl) _)) (by omega) (lE_sz (Nat.le_refl _) (by omega) p13)), trivial⟩
  · refine jx_swe (z := 4) (tg := 68) h2 rfl rfl rfl rfl ?_
    obtain ⟨m4, g1, g2, g3, g4⟩ := wE_i4 p_5 (by omega)
    refine jx_ld (pc_q := 69) (l_q := [(0, .ref 66), (1, .int (i32 (e))), (2, .int (i32 (free)))]) (st_q := [.ref 66]) rfl (jl_aloadn rfl) ?_
    refine jr_get (pc_q := 72) (i := 34) (v := .ref 84) rfl rfl (by decide) rfl rfl ?_
    refine jx_ld (pc_q := 73) (l_q := [(0, .ref 66), (1, .int (i32 (e))), (2, .int (i32 (free)))]) (st_q := [.int (i32 (e)), .ref 84]) rfl (jl_iloadn rfl) ?_
    have b17 : (-2147483648 : Int) ≤ A 17 (e).toNat ∧ A 17 (e).toNat ≤ 2147483647 := hW.2 17 _
    refine jr_ldv (pc_q := 74) (i := 17) (m := 7000) (z := e) (y := A 17 (e).toNat) rfl (by decide) rfl (by decide) (by omega) (by omega) rfl (show A 17 (e).toNat = A 17 (e).toNat from rfl) ?_
    refine jx_ar (pc_q := 76) (st_q := [.int (i32 (17)), .int (i32 (A 17 (e).toNat))]) rfl rfl rfl rfl ?_
    refine jx_icmp_eq (pc_q := 79) (tg := 111) rfl rfl rfl (Int.le_trans (by decide : (-2147483648 : Int) ≤ -2147483648) b17.1) (Int.le_trans b17.2 (by decide : (2147483647 : Int) ≤ 2147483647)) (by decide) (by decide) (fun h18 => ?_) (fun h18 => ?_)
    · have _q := h18
      refine jx_ld (pc_q := 112) (l_q := [(0, .ref 66), (1, .int (i32 (e))), (2, .int (i32 (free)))]) (st_q := [.ref 66]) rfl (jl_aloadn rfl) ?_
      refine jx_ld (pc_q := 113) (l_q := [(0, .ref 66), (1, .int (i32 (e))), (2, .int (i32 (free)))]) (st_q := [.ref 66, .ref 66]) rfl (jl_aloadn rfl) ?_
      refine jr_get (pc_q := 116) (i := 35) (v := .ref 85) rfl rfl (by decide) rfl rfl ?_
      refine jx_ld (pc_q := 117) (l_q := [(0, .ref 66), (1, .int (i32 (e))), (2, .int (i32 (free)))]) (st_q := [.int (i32 (e)), .ref 85, .ref 66]) rfl (jl_iloadn rfl) ?_
      have b19 : (-2147483648 : Int) ≤ A 18 (e).toNat ∧ A 18 (e).toNat ≤ 2147483647 := hW.2 18 _
      refine jr_ldv (pc_q := 118) (i := 18) (m := 7000) (z := e) (y := A 18 (e).toNat) rfl (by decide) rfl (by decide) (by omega) (by omega) rfl (show A 18 (e).toNat = A 18 (e).toNat from rfl) ?_
      refine jx_ld (pc_q := 119) (l_q := [(0, .ref 66), (1, .int (i32 (e))), (2, .int (i32 (free)))]) (st_q := [.int (i32 (free)), .int (i32 (A 18 (e).toNat)), .ref 66]) rfl (jl_iloadn rfl) ?_
      refine jx_vr (pc_q := 122) (as := [.int (i32 (A 18 (e).toNat)), .int (i32 (free))]) (st := []) rfl rfl rfl rfl ⟨rfl, rfl, Nat.le_of_ble_eq_true rfl⟩ rfl rfl (hE (dd := d) (hd := by omega) (hW := hW) (e := A 18 (e).toNat) (free := free) (lo := lo) (hi := m4) (mo := mo) (e_mo := show G 59 = mo from (e_mo))  (h_e := ⟨(Int.le_trans (by decide : (-2147483648 : Int) ≤ -2147483648) b19.1), (Int.le_trans b19.2 (by decide : (2147483647 : Int) ≤ 2147483647))⟩) (h_free := ⟨(Int.le_trans (by decide : (-2147483648 : Int) ≤ -2147483648) h_free.1), (Int.le_trans h_free.2 (by decide : (2147483647 : Int) ≤ 2147483647))⟩)  (p_0 := by omega) (p_1 := by omega) (p_2 := by omega) (p_3 := by omega) (p_4 := by omega) (p_5 := (wE_mono (by omega) (by omega) (by omega) g3)) (p_6 := by omega)) (fun o V_q hq => ?_)
      obtain ⟨G20, A21, mo2_22, rfl, rfl, hW23, hF24, hQ25, e26, p27, p28, p29, -⟩ := hq
      have hF31 := Fr_tr hF0 hF24 (Fr_sub (by decide)) (Fr_sub (by decide))
      have hO32 := Fo_tr hO0 hQ25 (by omega) (by omega)
      have bmo2_22 : (-2147483648 : Int) ≤ mo2_22 ∧ mo2_22 ≤ 2147483647 := e26 ▸ hW23.1 59
      refine .inl ⟨rfl, ?_⟩
      refine jx_ld (pc_q := 123) (l_q := [(0, .ref 66), (1, .int (i32 (e))), (2, .int (i32 (free)))]) (st_q := [.ref 66]) rfl (jl_aloadn rfl) ?_
      refine jx_ld (pc_q := 124) (l_q := [(0, .ref 66), (1, .int (i32 (e))), (2, .int (i32 (free)))]) (st_q := [.ref 66, .ref 66]) rfl (jl_aloadn rfl) ?_
      refine jr_get (pc_q := 127) (i := 36) (v := .ref 86) rfl rfl (by decide) rfl rfl ?_
      refine jx_ld (pc_q := 128) (l_q := [(0, .ref 66), (1, .int (i32 (e))), (2, .int (i32 (free)))]) (st_q := [.int (i32 (e)), .ref 86, .ref 66]) rfl (jl_iloadn rfl) ?_
      have b33 : (-2147483648 : Int) ≤ A 19 (e).toNat ∧ A 19 (e).toNat ≤ 2147483647 := hW.2 19 _
      refine jr_ldv (pc_q := 129) (i := 19) (m := 7000) (z := e) (y := A 19 (e).toNat) rfl (by decide) rfl (by decide) (by omega) (by omega) rfl (show A21 19 (e).toNat = A 19 (e).toNat from (congrFun (hF24.2 19 rfl) _)) ?_
      refine jx_ld (pc_q := 130) (l_q := [(0, .ref 66), (1, .int (i32 (e))), (2, .int (i32 (free)))]) (st_q := [.int (i32 (free)), .int (i32 (A 19 (e).toNat)), .ref 66]) rfl (jl_iloadn rfl) ?_
      refine jx_vr (pc_q := 133) (as := [.int (i32 (A 19 (e).toNat)), .int (i32 (free))]) (st := []) rfl rfl rfl rfl ⟨rfl, rfl, Nat.le_of_ble_eq_true rfl⟩ rfl rfl (hE (dd := d) (hd := by omega) (hW := hW23) (e := A 19 (e).toNat) (free := free) (lo := m4) (hi := e) (mo := mo2_22) (e_mo := show G20 59 = mo2_22 from (e26))  (h_e := ⟨(Int.le_trans (by decide : (-2147483648 : Int) ≤ -2147483648) b33.1), (Int.le_trans b33.2 (by decide : (2147483647 : Int) ≤ 2147483647))⟩) (h_free := ⟨(Int.le_trans (by decide : (-2147483648 : Int) ≤ -2147483648) h_free.1), (Int.le_trans h_free.2 (by decide : (2147483647 : Int) ≤ 2147483647))⟩)  (p_0 := by omega) (p_1 := by omega) (p_2 := by omega) (p_3 := by omega) (p_4 := by omega) (p_5 := (wE_mono (by omega) (by omega) (by omega) (wE_fr hF31 (by decide) (by decide) (by omega) g4))) (p_6 := by omega)) (fun o V_q hq => ?_)
      obtain ⟨G34, A35, mo2_36, rfl, rfl, hW37, hF38, hQ39, e40, p41, p42, p43, -⟩ := hq
      have hF45 := Fr_tr hF31 hF38 (Fr_sub (by decide)) (Fr_sub (by decide))
      have hO46 := Fo_tr hO32 hQ39 (by omega) (by omega)
      have sf47 : lE A35 (k) (A 18 (e).toNat) (free) (mo2_22) := lE_mv (by omega) (Ag_fr hF38 (by decide)) (fun j h1 h2 => hQ39 25 j rfl (by omega)) (wE_fr hF31 (by decide) (by decide) (by omega) g3) p29
      have bmo2_36 : (-2147483648 : Int) ≤ mo2_36 ∧ mo2_36 ≤ 2147483647 := e40 ▸ hW37.1 59
      refine .inl ⟨rfl, ?_⟩
      refine jx_go (tg := 177) rfl rfl ?_
      refine jx_rt (v := none) rfl rfl rfl rfl rfl rfl ?_
      exact ⟨_, _, mo2_36, rfl, rfl, hW37, hF45, hO46, (e40), by omega, by omega, (lE_k4s (show A35 15 (e).toNat = A 15 (e).toNat from (congrFun ((hF38.2 15 rfl).trans (hF24.2 15 rfl)) _)) (show A35 18 (e).toNat = A 18 (e).toNat from (congrFun ((hF38.2 18 rfl).trans (hF24.2 18 rfl)) _)) (show A35 19 (e).toNat = A 19 (e).toNat from (congrFun ((hF38.2 19 rfl).trans (hF24.2 19 rfl)) _)) (by omega) ((sO_ag (by omega) (Ag_fr hF45 (by decide)) p_5 (by omega)).mpr (by first | exact .inl (by omega) | exact .inr (.inl (by omega)))) (lE_sz (Nat.le_refl _) (by omega) sf47) (lE_sz (Nat.le_refl _) (by omega) p43)), trivial⟩
    · have _q := h18
      refine jx_ld (pc_q := 80) (l_q := [(0, .ref 66), (1, .int (i32 (e))), (2, .int (i32 (free)))]) (st_q := [.ref 66]) rfl (jl_aloadn rfl) ?_
      refine jr_get (pc_q := 83) (i := 34) (v := .ref 84) rfl rfl (by decide) rfl rfl ?_
      refine jx_ld (pc_q := 84) (l_q := [(0, .ref 66), (1, .int (i32 (e))), (2, .int (i32 (free)))]) (st_q := [.int (i32 (e)), .ref 84]) rfl (jl_iloadn rfl) ?_
      refine jr_ldv (pc_q := 85) (i := 17) (m := 7000) (z := e) (y := A 17 (e).toNat) rfl (by decide) rfl (by decide) (by omega) (by omega) rfl (show A 17 (e).toNat = A 17 (e).toNat from rfl) ?_
      refine jx_ar (pc_q := 87) (st_q := [.int (i32 (18)), .int (i32 (A 17 (e).toNat))]) rfl rfl rfl rfl ?_
      refine jx_icmp_eq (pc_q := 90) (tg := 111) rfl rfl rfl (Int.le_trans (by decide : (-2147483648 : Int) ≤ -2147483648) b17.1) (Int.le_trans b17.2 (by decide : (2147483647 : Int) ≤ 2147483647)) (by decide) (by decide) (fun h48 => ?_) (fun h48 => ?_)
      · have _q := h48
        refine jx_ld (pc_q := 112) (l_q := [(0, .ref 66), (1, .int (i32 (e))), (2, .int (i32 (free)))]) (st_q := [.ref 66]) rfl (jl_aloadn rfl) ?_
        refine jx_ld (pc_q := 113) (l_q := [(0, .ref 66), (1, .int (i32 (e))), (2, .int (i32 (free)))]) (st_q := [.ref 66, .ref 66]) rfl (jl_aloadn rfl) ?_
        refine jr_get (pc_q := 116) (i := 35) (v := .ref 85) rfl rfl (by decide) rfl rfl ?_
        refine jx_ld (pc_q := 117) (l_q := [(0, .ref 66), (1, .int (i32 (e))), (2, .int (i32 (free)))]) (st_q := [.int (i32 (e)), .ref 85, .ref 66]) rfl (jl_iloadn rfl) ?_
        have b49 : (-2147483648 : Int) ≤ A 18 (e).toNat ∧ A 18 (e).toNat ≤ 2147483647 := hW.2 18 _
        refine jr_ldv (pc_q := 118) (i := 18) (m := 7000) (z := e) (y := A 18 (e).toNat) rfl (by decide) rfl (by decide) (by omega) (by omega) rfl (show A 18 (e).toNat = A 18 (e).toNat from rfl) ?_
        refine jx_ld (pc_q := 119) (l_q := [(0, .ref 66), (1, .int (i32 (e))), (2, .int (i32 (free)))]) (st_q := [.int (i32 (free)), .int (i32 (A 18 (e).toNat)), .ref 66]) rfl (jl_iloadn rfl) ?_
        refine jx_vr (pc_q := 122) (as := [.int (i32 (A 18 (e).toNat)), .int (i32 (free))]) (st := []) rfl rfl rfl rfl ⟨rfl, rfl, Nat.le_of_ble_eq_true rfl⟩ rfl rfl (hE (dd := d) (hd := by omega) (hW := hW) (e := A 18 (e).toNat) (free := free) (lo := lo) (hi := m4) (mo := mo) (e_mo := show G 59 = mo from (e_mo))  (h_e := ⟨(Int.le_trans (by decide : (-2147483648 : Int) ≤ -2147483648) b49.1), (Int.le_trans b49.2 (by decide : (2147483647 : Int) ≤ 2147483647))⟩) (h_free := ⟨(Int.le_trans (by decide : (-2147483648 : Int) ≤ -2147483648) h_free.1), (Int.le_trans h_free.2 (by decide : (2147483647 : Int) ≤ 2147483647))⟩)  (p_0 := by omega) (p_1 := by omega) (p_2 := by omega) (p_3 := by omega) (p_4 := by omega) (p_5 := (wE_mono (by omega) (by omega) (by omega) g3)) (p_6 := by omega)) (fun o V_q hq => ?_)
        obtain ⟨G50, A51, mo2_52, rfl, rfl, hW53, hF54, hQ55, e56, p57, p58, p59, -⟩ := hq
        have hF61 := Fr_tr hF0 hF54 (Fr_sub (by decide)) (Fr_sub (by decide))
        have hO62 := Fo_tr hO0 hQ55 (by omega) (by omega)
        have bmo2_52 : (-2147483648 : Int) ≤ mo2_52 ∧ mo2_52 ≤ 2147483647 := e56 ▸ hW53.1 59
        refine .inl ⟨rfl, ?_⟩
        refine jx_ld (pc_q := 123) (l_q := [(0, .ref 66), (1, .int (i32 (e))), (2, .int (i32 (free)))]) (st_q := [.ref 66]) rfl (jl_aloadn rfl) ?_
        refine jx_ld (pc_q := 124) (l_q := [(0, .ref 66), (1, .int (i32 (e))), (2, .int (i32 (free)))]) (st_q := [.ref 66, .ref 66]) rfl (jl_aloadn rfl) ?_
        refine jr_get (pc_q := 127) (i := 36) (v := .ref 86) rfl rfl (by decide) rfl rfl ?_
        refine jx_ld (pc_q := 128) (l_q := [(0, .ref 66), (1, .int (i32 (e))), (2, .int (i32 (free)))]) (st_q := [.int (i32 (e)), .ref 86, .ref 66]) rfl (jl_iloadn rfl) ?_
        have b63 : (-2147483648 : Int) ≤ A 19 (e).toNat ∧ A 19 (e).toNat ≤ 2147483647 := hW.2 19 _
        refine jr_ldv (pc_q := 129) (i := 19) (m := 7000) (z := e) (y := A 19 (e).toNat) rfl (by decide) rfl (by decide) (by omega) (by omega) rfl (show A51 19 (e).toNat = A 19 (e).toNat from (congrFun (hF54.2 19 rfl) _)) ?_
        refine jx_ld (pc_q := 130) (l_q := [(0, .ref 66), (1, .int (i32 (e))), (2, .int (i32 (free)))]) (st_q := [.int (i32 (free)), .int (i32 (A 19 (e).toNat)), .ref 66]) rfl (jl_iloadn rfl) ?_
        refine jx_vr (pc_q := 133) (as := [.int (i32 (A 19 (e).toNat)), .int (i32 (free))]) (st := []) rfl rfl rfl rfl ⟨rfl, rfl, Nat.le_of_ble_eq_true rfl⟩ rfl rfl (hE (dd := d) (hd := by omega) (hW := hW53) (e := A 19 (e).toNat) (free := free) (lo := m4) (hi := e) (mo := mo2_52) (e_mo := show G50 59 = mo2_52 from (e56))  (h_e := ⟨(Int.le_trans (by decide : (-2147483648 : Int) ≤ -2147483648) b63.1), (Int.le_trans b63.2 (by decide : (2147483647 : Int) ≤ 2147483647))⟩) (h_free := ⟨(Int.le_trans (by decide : (-2147483648 : Int) ≤ -2147483648) h_free.1), (Int.le_trans h_free.2 (by decide : (2147483647 : Int) ≤ 2147483647))⟩)  (p_0 := by omega) (p_1 := by omega) (p_2 := by omega) (p_3 := by omega) (p_4 := by omega) (p_5 := (wE_mono (by omega) (by omega) (by omega) (wE_fr hF61 (by decide) (by decide) (by omega) g4))) (p_6 := by omega)) (fun o V_q hq => ?_)
        obtain ⟨G64, A65, mo2_66, rfl, rfl, hW67, hF68, hQ69, e70, p71, p72, p73, -⟩ := hq
        have hF75 := Fr_tr hF61 hF68 (Fr_sub (by decide)) (Fr_sub (by decide))
        have hO76 := Fo_tr hO62 hQ69 (by omega) (by omega)
        have sf77 : lE A65 (k) (A 18 (e).toNat) (free) (mo2_52) := lE_mv (by omega) (Ag_fr hF68 (by decide)) (fun j h1 h2 => hQ69 25 j rfl (by omega)) (wE_fr hF61 (by decide) (by decide) (by omega) g3) p59
        have bmo2_66 : (-2147483648 : Int) ≤ mo2_66 ∧ mo2_66 ≤ 2147483647 := e70 ▸ hW67.1 59
        refine .inl ⟨rfl, ?_⟩
        refine jx_go (tg := 177) rfl rfl ?_
        refine jx_rt (v := none) rfl rfl rfl rfl rfl rfl ?_
        exact ⟨_, _, mo2_66, rfl, rfl, hW67, hF75, hO76, (e70), by omega, by omega, (lE_k4s (show A65 15 (e).toNat = A 15 (e).toNat from (congrFun ((hF68.2 15 rfl).trans (hF54.2 15 rfl)) _)) (show A65 18 (e).toNat = A 18 (e).toNat from (congrFun ((hF68.2 18 rfl).trans (hF54.2 18 rfl)) _)) (show A65 19 (e).toNat = A 19 (e).toNat from (congrFun ((hF68.2 19 rfl).trans (hF54.2 19 rfl)) _)) (by omega) ((sO_ag (by omega) (Ag_fr hF75 (by decide)) p_5 (by omega)).mpr (by first | exact .inl (by omega) | exact .inr (.inl (by omega)))) (lE_sz (Nat.le_refl _) (by omega) sf77) (lE_sz (Nat.le_refl _) (by omega) p73)), trivial⟩
      · have _q := h48
        refine jx_ld (pc_q := 91) (l_q := [(0, .ref 66), (1, .int (i32 (e))), (2, .int (i32 (free)))]) (st_q := [.ref 66]) rfl (jl_aloadn rfl) ?_
        refine jr_get (pc_q := 94) (i := 32) (v := .ref 82) rfl rfl (by decide) rfl rfl ?_
        refine jx_ld (pc_q := 95) (l_q := [(0, .ref 66), (1, .int (i32 (e))), (2, .int (i32 (free)))]) (st_q := [.ref 66, .ref 82]) rfl (jl_aloadn rfl) ?_
        refine jx_ld (pc_q := 96) (l_q := [(0, .ref 66), (1, .int (i32 (e))), (2, .int (i32 (free)))]) (st_q := [.ref 66, .ref 66, .ref 82]) rfl (jl_aloadn rfl) ?_
        refine jr_get (pc_q := 99) (i := 36) (v := .ref 86) rfl rfl (by decide) rfl rfl ?_
        refine jx_ld (pc_q := 100) (l_q := [(0, .ref 66), (1, .int (i32 (e))), (2, .int (i32 (free)))]) (st_q := [.int (i32 (e)), .ref 86, .ref 66, .ref 82]) rfl (jl_iloadn rfl) ?_
        have b78 : (-2147483648 : Int) ≤ A 19 (e).toNat ∧ A 19 (e).toNat ≤ 2147483647 := hW.2 19 _
        refine jr_ldv (pc_q := 101) (i := 19) (m := 7000) (z := e) (y := A 19 (e).toNat) rfl (by decide) rfl (by decide) (by omega) (by omega) rfl (show A 19 (e).toNat = A 19 (e).toNat from rfl) ?_
        refine jx_vr (pc_q := 104) (as := [.int (i32 (A 19 (e).toNat))]) (st := [.ref 82]) rfl rfl rfl rfl ⟨rfl, rfl, Nat.le_of_ble_eq_true rfl⟩ rfl rfl (c_bare (dd := d) (hd := by omega) (hW := hW) (e := A 19 (e).toNat) (k := k) (lo := m4) (hi := e)  (h_e := ⟨(Int.le_trans (by decide : (-2147483648 : Int) ≤ -2147483648) b78.1), (Int.le_trans b78.2 (by decide : (2147483647 : Int) ≤ 2147483647))⟩)  (p_0 := by omega) (p_1 := by omega) (p_2 := by omega) (p_3 := (wE_mono (by omega) (by omega) (by omega) g4))) (fun o V_q hq => ?_)
        obtain ⟨r79, rfl, rfl, b80, p81, p82, p83, -⟩ := hq
        refine .inr ⟨_, rfl, ?_⟩
        have _q : True := trivial
        have b85 : (0 : Int) ≤ A 15 (r79).toNat ∧ A 15 (r79).toNat ≤ 34 := hW.2 15 _
        refine jr_ldv (pc_q := 105) (i := 15) (m := 7000) (z := r79) (y := A 15 (r79).toNat) rfl (by decide) rfl (by decide) (by omega) (by omega) rfl (show A 15 (r79).toNat = A 15 (r79).toNat from rfl) ?_
        refine jx_st (pc_q := 108) (as := [.int (i32 (A 15 (r79).toNat))]) (st := []) rfl rfl ⟨rfl, Nat.le_of_ble_eq_true rfl⟩ rfl rfl rfl (c_isPlain2 (dd := d) (hd := by omega) (k := A 15 (r79).toNat)   (h_k := ⟨(Int.le_trans (by decide : (-2147483648 : Int) ≤ 0) b85.1), (Int.le_trans b85.2 (by decide : (34 : Int) ≤ 2147483647))⟩)  ) (fun o V_q hq => ?_)
        obtain ⟨r86, rfl, rfl, b87, q88⟩ := hq
        refine .inr ⟨_, rfl, ?_⟩
        rcases q88 with ⟨rfl, a89⟩ | ⟨rfl, a90, a91⟩
        · have _q : True := trivial
          refine jx_if_eq (pc_q := 111) (tg := 136) rfl rfl rfl (by decide) (by decide) (fun h92 => ?_) (fun h92 => ?_)
          · have _q := h92
            exact absurd h92 (by omega)
          · have _q := h92
            refine jx_ld (pc_q := 112) (l_q := [(0, .ref 66), (1, .int (i32 (e))), (2, .int (i32 (free)))]) (st_q := [.ref 66]) rfl (jl_aloadn rfl) ?_
            refine jx_ld (pc_q := 113) (l_q := [(0, .ref 66), (1, .int (i32 (e))), (2, .int (i32 (free)))]) (st_q := [.ref 66, .ref 66]) rfl (jl_aloadn rfl) ?_
            refine jr_get (pc_q := 116) (i := 35) (v := .ref 85) rfl rfl (by decide) rfl rfl ?_
            refine jx_ld (pc_q := 117) (l_q := [(0, .ref 66), (1, .int (i32 (e))), (2, .int (i32 (free)))]) (st_q := [.int (i32 (e)), .ref 85, .ref 66]) rfl (jl_iloadn rfl) ?_
            have b93 : (-2147483648 : Int) ≤ A 18 (e).toNat ∧ A 18 (e).toNat ≤ 2147483647 := hW.2 18 _
            refine jr_ldv (pc_q := 118) (i := 18) (m := 7000) (z := e) (y := A 18 (e).toNat) rfl (by decide) rfl (by decide) (by omega) (by omega) rfl (show A 18 (e).toNat = A 18 (e).toNat from rfl) ?_
            refine jx_ld (pc_q := 119) (l_q := [(0, .ref 66), (1, .int (i32 (e))), (2, .int (i32 (free)))]) (st_q := [.int (i32 (free)), .int (i32 (A 18 (e).toNat)), .ref 66]) rfl (jl_iloadn rfl) ?_
            refine jx_vr (pc_q := 122) (as := [.int (i32 (A 18 (e).toNat)), .int (i32 (free))]) (st := []) rfl rfl rfl rfl ⟨rfl, rfl, Nat.le_of_ble_eq_true rfl⟩ rfl rfl (hE (dd := d) (hd := by omega) (hW := hW) (e := A 18 (e).toNat) (free := free) (lo := lo) (hi := m4) (mo := mo) (e_mo := show G 59 = mo from (e_mo))  (h_e := ⟨(Int.le_trans (by decide : (-2147483648 : Int) ≤ -2147483648) b93.1), (Int.le_trans b93.2 (by decide : (2147483647 : Int) ≤ 2147483647))⟩) (h_free := ⟨(Int.le_trans (by decide : (-2147483648 : Int) ≤ -2147483648) h_free.1), (Int.le_trans h_free.2 (by decide : (2147483647 : Int) ≤ 2147483647))⟩)  (p_0 := by omega) (p_1 := by omega) (p_2 := by omega) (p_3 := by omega) (p_4 := by omega) (p_5 := (wE_mono (by omega) (by omega) (by omega) g3)) (p_6 := by omega)) (fun o V_q hq => ?_)
            obtain ⟨G94, A95, mo2_96, rfl, rfl, hW97, hF98, hQ99, e100, p101, p102, p103, -⟩ := hq
            have hF105 := Fr_tr hF0 hF98 (Fr_sub (by decide)) (Fr_sub (by decide))
            have hO106 := Fo_tr hO0 hQ99 (by omega) (by omega)
            have bmo2_96 : (-2147483648 : Int) ≤ mo2_96 ∧ mo2_96 ≤ 2147483647 := e100 ▸ hW97.1 59
            refine .inl ⟨rfl, ?_⟩
            refine jx_ld (pc_q := 123) (l_q := [(0, .ref 66), (1, .int (i32 (e))), (2, .int (i32 (free)))]) (st_q := [.ref 66]) rfl (jl_aloadn rfl) ?_
            refine jx_ld (pc_q := 124) (l_q := [(0, .ref 66), (1, .int (i32 (e))), (2, .int (i32 (free)))]) (st_q := [.ref 66, .ref 66]) rfl (jl_aloadn rfl) ?_
            refine jr_get (pc_q := 127) (i := 36) (v := .ref 86) rfl rfl (by decide) rfl rfl ?_
            refine jx_ld (pc_q := 128) (l_q := [(0, .ref 66), (1, .int (i32 (e))), (2, .int (i32 (free)))]) (st_q := [.int (i32 (e)), .ref 86, .ref 66]) rfl (jl_iloadn rfl) ?_
            refine jr_ldv (pc_q := 129) (i := 19) (m := 7000) (z := e) (y := A 19 (e).toNat) rfl (by decide) rfl (by decide) (by omega) (by omega) rfl (show A95 19 (e).toNat = A 19 (e).toNat from (congrFun (hF98.2 19 rfl) _)) ?_
            refine jx_ld (pc_q := 130) (l_q := [(0, .ref 66), (1, .int (i32 (e))), (2, .int (i32 (free)))]) (st_q := [.int (i32 (free)), .int (i32 (A 19 (e).toNat)), .ref 66]) rfl (jl_iloadn rfl) ?_
            refine jx_vr (pc_q := 133) (as := [.int (i32 (A 19 (e).toNat)), .int (i32 (free))]) (st := []) rfl rfl rfl rfl ⟨rfl, rfl, Nat.le_of_ble_eq_true rfl⟩ rfl rfl (hE (dd := d) (hd := by omega) (hW := hW97) (e := A 19 (e).toNat) (free := free) (lo := m4) (hi := e) (mo := mo2_96) (e_mo := show G94 59 = mo2_96 from (e100))  (h_e := ⟨(Int.le_trans (by decide : (-2147483648 : Int) ≤ -2147483648) b78.1), (Int.le_trans b78.2 (by decide : (2147483647 : Int) ≤ 2147483647))⟩) (h_free := ⟨(Int.le_trans (by decide : (-2147483648 : Int) ≤ -2147483648) h_free.1), (Int.le_trans h_free.2 (by decide : (2147483647 : Int) ≤ 2147483647))⟩)  (p_0 := by omega) (p_1 := by omega) (p_2 := by omega) (p_3 := by omega) (p_4 := by omega) (p_5 := (wE_mono (by omega) (by omega) (by omega) (wE_fr hF105 (by decide) (by decide) (by omega) g4))) (p_6 := by omega)) (fun o V_q hq => ?_)
            obtain ⟨G107, A108, mo2_109, rfl, rfl, hW110, hF111, hQ112, e113, p114, p115, p116, -⟩ := hq
            have hF118 := Fr_tr hF105 hF111 (Fr_sub (by decide)) (Fr_sub (by decide))
            have hO119 := Fo_tr hO106 hQ112 (by omega) (by omega)
            have sf120 : lE A108 (k) (A 18 (e).toNat) (free) (mo2_96) := lE_mv (by omega) (Ag_fr hF111 (by decide)) (fun j h1 h2 => hQ112 25 j rfl (by omega)) (wE_fr hF105 (by decide) (by decide) (by omega) g3) p103
            have bmo2_109 : (-2147483648 : Int) ≤ mo2_109 ∧ mo2_109 ≤ 2147483647 := e113 ▸ hW110.1 59
            refine .inl ⟨rfl, ?_⟩
            refine jx_go (tg := 177) rfl rfl ?_
            refine jx_rt (v := none) rfl rfl rfl rfl rfl rfl ?_
            exact ⟨_, _, mo2_109, rfl, rfl, hW110, hF118, hO119, (e113), by omega, by omega, (lE_k4s (show A108 15 (e).toNat = A 15 (e).toNat from (congrFun ((hF111.2 15 rfl).trans (hF98.2 15 rfl)) _)) (show A108 18 (e).toNat = A 18 (e).toNat from (congrFun ((hF111.2 18 rfl).trans (hF98.2 18 rfl)) _)) (show A108 19 (e).toNat = A 19 (e).toNat from (congrFun ((hF111.2 19 rfl).trans (hF98.2 19 rfl)) _)) (by omega) ((sO_ag (by omega) (Ag_fr hF118 (by decide)) p_5 (by omega)).mpr (sO_p (r := r79) (by omega) (by omega))) (lE_sz (Nat.le_refl _) (by omega) sf120) (lE_sz (Nat.le_refl _) (by omega) p116)), trivial⟩
        · have _q : True := trivial
          refine jx_if_eq (pc_q := 111) (tg := 136) rfl rfl rfl (by decide) (by decide) (fun h121 => ?_) (fun h121 => ?_)
          · have _q := h121
            have hnO : ¬ sO A e := nO_p (r := r79) (by omega) (by omega) (by omega) (by omega)
            refine jx_ld (pc_q := 137) (l_q := [(0, .ref 66), (1, .int (i32 (e))), (2, .int (i32 (free)))]) (st_q := [.ref 66]) rfl (jl_aloadn rfl) ?_
            refine jx_ld (pc_q := 138) (l_q := [(0, .ref 66), (1, .int (i32 (e))), (2, .int (i32 (free)))]) (st_q := [.ref 66, .ref 66]) rfl (jl_aloadn rfl) ?_
            refine jr_get (pc_q := 141) (i := 36) (v := .ref 86) rfl rfl (by decide) rfl rfl ?_
            refine jx_ld (pc_q := 142) (l_q := [(0, .ref 66), (1, .int (i32 (e))), (2, .int (i32 (free)))]) (st_q := [.int (i32 (e)), .ref 86, .ref 66]) rfl (jl_iloadn rfl) ?_
            refine jr_ldv (pc_q := 143) (i := 19) (m := 7000) (z := e) (y := A 19 (e).toNat) rfl (by decide) rfl (by decide) (by omega) (by omega) rfl (show A 19 (e).toNat = A 19 (e).toNat from rfl) ?_
            refine jx_ld (pc_q := 144) (l_q := [(0, .ref 66), (1, .int (i32 (e))), (2, .int (i32 (free)))]) (st_q := [.int (i32 (free)), .int (i32 (A 19 (e).toNat)), .ref 66]) rfl (jl_iloadn rfl) ?_
            refine jx_vr (pc_q := 147) (as := [.int (i32 (A 19 (e).toNat)), .int (i32 (free))]) (st := []) rfl rfl rfl rfl ⟨rfl, rfl, Nat.le_of_ble_eq_true rfl⟩ rfl rfl (hE (dd := d) (hd := by omega) (hW := hW) (e := A 19 (e).toNat) (free := free) (lo := m4) (hi := e) (mo := mo) (e_mo := show G 59 = mo from (e_mo))  (h_e := ⟨(Int.le_trans (by decide : (-2147483648 : Int) ≤ -2147483648) b78.1), (Int.le_trans b78.2 (by decide : (2147483647 : Int) ≤ 2147483647))⟩) (h_free := ⟨(Int.le_trans (by decide : (-2147483648 : Int) ≤ -2147483648) h_free.1), (Int.le_trans h_free.2 (by decide : (2147483647 : Int) ≤ 2147483647))⟩)  (p_0 := by omega) (p_1 := by omega) (p_2 := by omega) (p_3 := by omega) (p_4 := by omega) (p_5 := (wE_mono (by omega) (by omega) (by omega) g4)) (p_6 := by omega)) (fun o V_q hq => ?_)
            obtain ⟨G122, A123, mo2_124, rfl, rfl, hW125, hF126, hQ127, e128, p129, p130, p131, -⟩ := hq
            have hF133 := Fr_tr hF0 hF126 (Fr_sub (by decide)) (Fr_sub (by decide))
            have hO134 := Fo_tr hO0 hQ127 (by omega) (by omega)
            have bmo2_124 : (-2147483648 : Int) ≤ mo2_124 ∧ mo2_124 ≤ 2147483647 := e128 ▸ hW125.1 59
            refine .inl ⟨rfl, ?_⟩
            refine jx_ld (pc_q := 148) (l_q := [(0, .ref 66), (1, .int (i32 (e))), (2, .int (i32 (free)))]) (st_q := [.ref 66]) rfl (jl_aloadn rfl) ?_
            refine jr_get (pc_q := 151) (i := 42) (v := .ref 92) rfl rfl (by decide) rfl rfl ?_
            refine jx_ld (pc_q := 152) (l_q := [(0, .ref 66), (1, .int (i32 (e))), (2, .int (i32 (free)))]) (st_q := [.int (i32 (e)), .ref 92]) rfl (jl_iloadn rfl) ?_
            refine jx_ld (pc_q := 153) (l_q := [(0, .ref 66), (1, .int (i32 (e))), (2, .int (i32 (free)))]) (st_q := [.int (i32 (free)), .int (i32 (e)), .ref 92]) rfl (jl_iloadn rfl) ?_
            refine jr_st (pc_q := 154) (i := 25) (m := 7000) (z := e) (y := free) rfl (by decide) rfl (by decide) (by omega) (by omega) rfl ?_
            have hW136 : Wk G122 (uA A123 25 (e).toNat (free)) := Wk_a hW125 (show (-2147483648 : Int) ≤ free by omega) (show free ≤ (2147483647 : Int) by omega)
            have hF137 := Fr_a (z := free) (k := 25) (n := (e).toNat) hF133 (by decide)
            obtain ⟨A135, eA135⟩ : ∃ q, q = uA A123 25 (e).toNat (free) := ⟨_, rfl⟩
            rw [← eA135]
            rw [← eA135] at hW136 hF137
            have q138 : A135 25 (e).toNat = free := by rw [eA135]; exact uA_eq
            have hO139 : Fo [25, 26, 27] (lo) (hi) A A135 := eA135 ▸ Fo_a hO134 (z := e) (by omega) (by omega) (by omega)
            have sf140 : lE A135 (k) (A 19 (e).toNat) (free) (mo2_124) := lE_mv (by omega) (Ag_ne eA135 rfl) (fun j h1 h2 => by rw [eA135]; exact uA_ni (by omega)) (wE_fr hF133 (by decide) (by decide) (by omega) g4) p131
            refine jx_ld (pc_q := 155) (l_q := [(0, .ref 66), (1, .int (i32 (e))), (2, .int (i32 (free)))]) (st_q := [.ref 66]) rfl (jl_aloadn rfl) ?_
            refine jx_ld (pc_q := 156) (l_q := [(0, .ref 66), (1, .int (i32 (e))), (2, .int (i32 (free)))]) (st_q := [.int (i32 (free)), .ref 66]) rfl (jl_iloadn rfl) ?_
            refine jx_ar (pc_q := 157) (st_q := [.int (i32 (1)), .int (i32 (free)), .ref 66]) rfl rfl rfl rfl ?_
            refine jx_add (pc_q := 158) rfl rfl ?_
            refine jx_vr (pc_q := 161) (as := [.int (i32 ((free + 1)))]) (st := []) rfl rfl rfl rfl ⟨rfl, rfl, Nat.le_of_ble_eq_true rfl⟩ rfl rfl (c_reach (dd := d) (hd := by omega) (hW := hW136) (free := (free + 1)) (mo := mo2_124) (e_mo := show G122 59 = mo2_124 from (e128))  (h_free := ⟨(by omega), (by omega)⟩)  (p_0 := by omega) (p_1 := by omega)) (fun o V_q hq => ?_)
            obtain ⟨G141, A142, mo2_143, rfl, rfl, hW144, hF145, e146, p147, p148, p149, -⟩ := hq
            have hF151 := Fr_tr hF137 hF145 (Fr_sub (by decide)) (Fr_sub (by decide))
            have hO152 := Fo_f hO139 hF145 (by decide)
            have sf153 : lE A142 (k) (A 19 (e).toNat) (free) (mo2_124) := lE_mv (by omega) (Ag_fr hF145 (by decide)) (fun j _ _ => congrFun (hF145.2 25 rfl) j) (wE_fr hF137 (by decide) (by decide) (by omega) g4) sf140
            have bmo2_143 : (-2147483648 : Int) ≤ mo2_143 ∧ mo2_143 ≤ 2147483647 := e146 ▸ hW144.1 59
            refine .inl ⟨rfl, ?_⟩
            refine jx_ld (pc_q := 162) (l_q := [(0, .ref 66), (1, .int (i32 (e))), (2, .int (i32 (free)))]) (st_q := [.ref 66]) rfl (jl_aloadn rfl) ?_
            refine jx_ld (pc_q := 163) (l_q := [(0, .ref 66), (1, .int (i32 (e))), (2, .int (i32 (free)))]) (st_q := [.ref 66, .ref 66]) rfl (jl_aloadn rfl) ?_
            refine jr_get (pc_q := 166) (i := 35) (v := .ref 85) rfl rfl (by decide) rfl rfl ?_
            refine jx_ld (pc_q := 167) (l_q := [(0, .ref 66), (1, .int (i32 (e))), (2, .int (i32 (free)))]) (st_q := [.int (i32 (e)), .ref 85, .ref 66]) rfl (jl_iloadn rfl) ?_
            have b154 : (-2147483648 : Int) ≤ A 18 (e).toNat ∧ A 18 (e).toNat ≤ 2147483647 := hW.2 18 _
            refine jr_ldv (pc_q := 168) (i := 18) (m := 7000) (z := e) (y := A 18 (e).toNat) rfl (by decide) rfl (by decide) (by omega) (by omega) rfl (show A142 18 (e).toNat = A 18 (e).toNat from (congrFun ((hF145.2 18 rfl).trans (((congrFun eA135 18).trans (uA_ne (by decide))).trans (hF126.2 18 rfl))) _)) ?_
            refine jx_ld (pc_q := 169) (l_q := [(0, .ref 66), (1, .int (i32 (e))), (2, .int (i32 (free)))]) (st_q := [.int (i32 (free)), .int (i32 (A 18 (e).toNat)), .ref 66]) rfl (jl_iloadn rfl) ?_
            refine jx_ar (pc_q := 170) (st_q := [.int (i32 (1)), .int (i32 (free)), .int (i32 (A 18 (e).toNat)), .ref 66]) rfl rfl rfl rfl ?_
            refine jx_add (pc_q := 171) rfl rfl ?_
            refine jx_vr (pc_q := 174) (as := [.int (i32 (A 18 (e).toNat)), .int (i32 ((free + 1)))]) (st := []) rfl rfl rfl rfl ⟨rfl, rfl, Nat.le_of_ble_eq_true rfl⟩ rfl rfl (hE (dd := d) (hd := by omega) (hW := hW144) (e := A 18 (e).toNat) (free := (free + 1)) (lo := lo) (hi := m4) (mo := mo2_143) (e_mo := show G141 59 = mo2_143 from (e146))  (h_e := ⟨(Int.le_trans (by decide : (-2147483648 : Int) ≤ -2147483648) b154.1), (Int.le_trans b154.2 (by decide : (2147483647 : Int) ≤ 2147483647))⟩) (h_free := ⟨(by omega), (by omega)⟩)  (p_0 := by omega) (p_1 := by omega) (p_2 := by omega) (p_3 := by omega) (p_4 := by omega) (p_5 := (wE_mono (by omega) (by omega) (by omega) (wE_fr hF151 (by decide) (by decide) (by omega) g3))) (p_6 := by omega)) (fun o V_q hq => ?_)
            obtain ⟨G155, A156, mo2_157, rfl, rfl, hW158, hF159, hQ160, e161, p162, p163, p164, -⟩ := hq
            have hF166 := Fr_tr hF151 hF159 (Fr_sub (by decide)) (Fr_sub (by decide))
            have hO167 := Fo_tr hO152 hQ160 (by omega) (by omega)
            have k168 : A156 25 (e).toNat = free := (hQ160 25 _ rfl (by omega)).trans (show A142 25 (e).toNat = free from (congrFun (hF145.2 25 rfl) _).trans (q138))
            have sf169 : lE A156 (k) (A 19 (e).toNat) (free) (mo2_124) := lE_mv (by omega) (Ag_fr hF159 (by decide)) (fun j h1 h2 => hQ160 25 j rfl (by omega)) (wE_fr hF151 (by decide) (by decide) (by omega) g4) sf153
            have bmo2_157 : (-2147483648 : Int) ≤ mo2_157 ∧ mo2_157 ≤ 2147483647 := e161 ▸ hW158.1 59
            refine .inl ⟨rfl, ?_⟩
            refine jx_go (tg := 177) rfl rfl ?_
            refine jx_rt (v := none) rfl rfl rfl rfl rfl rfl ?_
            exact ⟨_, _, mo2_157, rfl, rfl, hW158, hF166, hO167, (e161), by omega, by omega, (lE_k4t (show A156 15 (e).toNat = A 15 (e).toNat from (congrFun ((hF159.2 15 rfl).trans ((hF145.2 15 rfl).trans (((congrFun eA135 15).trans (uA_ne (by decide))).trans (hF126.2 15 rfl)))) _)) (show A156 18 (e).toNat = A 18 (e).toNat from (congrFun ((hF159.2 18 rfl).trans ((hF145.2 18 rfl).trans (((congrFun eA135 18).trans (uA_ne (by decide))).trans (hF126.2 18 rfl)))) _)) (show A156 19 (e).toNat = A 19 (e).toNat from (congrFun ((hF159.2 19 rfl).trans ((hF145.2 19 rfl).trans (((congrFun eA135 19).trans (uA_ne (by decide))).trans (hF126.2 19 rfl)))) _)) (show A156 25 (e).toNat = free from (k168)) (by omega) (by omega) (by omega) (fun g => hnO ((sO_ag (by omega) (Ag_fr hF166 (by decide)) p_5 (by omega)).mp g)) (by omega) (lE_sz (Nat.le_refl _) (by omega) sf169) (lE_sz (Nat.le_refl _) (by omega) p164)), trivial⟩
          · have _q := h121
            exact absurd h121 (by omega)
  · refine jx_swe (z := 5) (tg := 54) h2 rfl rfl rfl rfl ?_
    have hq5 := wE_i5 p_5 (by omega)
    refine jx_ld (pc_q := 55) (l_q := [(0, .ref 66), (1, .int (i32 (e))), (2, .int (i32 (free)))]) (st_q := [.ref 66]) rfl (jl_aloadn rfl) ?_
    refine jx_ld (pc_q := 56) (l_q := [(0, .ref 66), (1, .int (i32 (e))), (2, .int (i32 (free)))]) (st_q := [.ref 66, .ref 66]) rfl (jl_aloadn rfl) ?_
    refine jr_get (pc_q := 59) (i := 34) (v := .ref 84) rfl rfl (by decide) rfl rfl ?_
    refine jx_ld (pc_q := 60) (l_q := [(0, .ref 66), (1, .int (i32 (e))), (2, .int (i32 (free)))]) (st_q := [.int (i32 (e)), .ref 84, .ref 66]) rfl (jl_iloadn rfl) ?_
    have b170 : (-2147483648 : Int) ≤ A 17 (e).toNat ∧ A 17 (e).toNat ≤ 2147483647 := hW.2 17 _
    refine jr_ldv (pc_q := 61) (i := 17) (m := 7000) (z := e) (y := A 17 (e).toNat) rfl (by decide) rfl (by decide) (by omega) (by omega) rfl (show A 17 (e).toNat = A 17 (e).toNat from rfl) ?_
    refine jx_ld (pc_q := 62) (l_q := [(0, .ref 66), (1, .int (i32 (e))), (2, .int (i32 (free)))]) (st_q := [.int (i32 (free)), .int (i32 (A 17 (e).toNat)), .ref 66]) rfl (jl_iloadn rfl) ?_
    refine jx_vr (pc_q := 65) (as := [.int (i32 (A 17 (e).toNat)), .int (i32 (free))]) (st := []) rfl rfl rfl rfl ⟨rfl, rfl, Nat.le_of_ble_eq_true rfl⟩ rfl rfl (hE (dd := d) (hd := by omega) (hW := hW) (e := A 17 (e).toNat) (free := free) (lo := lo) (hi := e) (mo := mo) (e_mo := show G 59 = mo from (e_mo))  (h_e := ⟨(Int.le_trans (by decide : (-2147483648 : Int) ≤ -2147483648) b170.1), (Int.le_trans b170.2 (by decide : (2147483647 : Int) ≤ 2147483647))⟩) (h_free := ⟨(Int.le_trans (by decide : (-2147483648 : Int) ≤ -2147483648) h_free.1), (Int.le_trans h_free.2 (by decide : (2147483647 : Int) ≤ 2147483647))⟩)  (p_0 := by omega) (p_1 := by omega) (p_2 := by omega) (p_3 := by omega) (p_4 := by omega) (p_5 := (wE_mono (by omega) (by omega) (by omega) hq5)) (p_6 := by omega)) (fun o V_q hq => ?_)
    obtain ⟨G171, A172, mo2_173, rfl, rfl, hW174, hF175, hQ176, e177, p178, p179, p180, -⟩ := hq
    have hF182 := Fr_tr hF0 hF175 (Fr_sub (by decide)) (Fr_sub (by decide))
    have hO183 := Fo_tr hO0 hQ176 (by omega) (by omega)
    have bmo2_173 : (-2147483648 : Int) ≤ mo2_173 ∧ mo2_173 ≤ 2147483647 := e177 ▸ hW174.1 59
    refine .inl ⟨rfl, ?_⟩
    refine jx_go (tg := 177) rfl rfl ?_
    refine jx_rt (v := none) rfl rfl rfl rfl rfl rfl ?_
    exact ⟨_, _, mo2_173, rfl, rfl, hW174, hF182, hO183, (e177), by omega, by omega, (lE_k5 (show A172 15 (e).toNat = A 15 (e).toNat from (congrFun (hF175.2 15 rfl) _)) (show A172 17 (e).toNat = A 17 (e).toNat from (congrFun (hF175.2 17 rfl) _)) (by omega) (lE_sz (Nat.le_refl _) (by omega) p180)), trivial⟩
  · refine jx_swe (z := 6) (tg := 54) h2 rfl rfl rfl rfl ?_
    have hq5 := wE_i5 p_5 (by omega)
    refine jx_ld (pc_q := 55) (l_q := [(0, .ref 66), (1, .int (i32 (e))), (2, .int (i32 (free)))]) (st_q := [.ref 66]) rfl (jl_aloadn rfl) ?_
    refine jx_ld (pc_q := 56) (l_q := [(0, .ref 66), (1, .int (i32 (e))), (2, .int (i32 (free)))]) (st_q := [.ref 66, .ref 66]) rfl (jl_aloadn rfl) ?_
    refine jr_get (pc_q := 59) (i := 34) (v := .ref 84) rfl rfl (by decide) rfl rfl ?_
    refine jx_ld (pc_q := 60) (l_q := [(0, .ref 66), (1, .int (i32 (e))), (2, .int (i32 (free)))]) (st_q := [.int (i32 (e)), .ref 84, .ref 66]) rfl (jl_iloadn rfl) ?_
    have b184 : (-2147483648 : Int) ≤ A 17 (e).toNat ∧ A 17 (e).toNat ≤ 2147483647 := hW.2 17 _
    refine jr_ldv (pc_q := 61) (i := 17) (m := 7000) (z := e) (y := A 17 (e).toNat) rfl (by decide) rfl (by decide) (by omega) (by omega) rfl (show A 17 (e).toNat = A 17 (e).toNat from rfl) ?_
    refine jx_ld (pc_q := 62) (l_q := [(0, .ref 66), (1, .int (i32 (e))), (2, .int (i32 (free)))]) (st_q := [.int (i32 (free)), .int (i32 (A 17 (e).toNat)), .ref 66]) rfl (jl_iloadn rfl) ?_
    refine jx_vr (pc_q := 65) (as := [.int (i32 (A 17 (e).toNat)), .int (i32 (free))]) (st := []) rfl rfl rfl rfl ⟨rfl, rfl, Nat.le_of_ble_eq_true rfl⟩ rfl rfl (hE (dd := d) (hd := by omega) (hW := hW) (e := A 17 (e).toNat) (free := free) (lo := lo) (hi := e) (mo := mo) (e_mo := show G 59 = mo from (e_mo))  (h_e := ⟨(Int.le_trans (by decide : (-2147483648 : Int) ≤ -2147483648) b184.1), (Int.le_trans b184.2 (by decide : (2147483647 : Int) ≤ 2147483647))⟩) (h_free := ⟨(Int.le_trans (by decide : (-2147483648 : Int) ≤ -2147483648) h_free.1), (Int.le_trans h_free.2 (by decide : (2147483647 : Int) ≤ 2147483647))⟩)  (p_0 := by omega) (p_1 := by omega) (p_2 := by omega) (p_3 := by omega) (p_4 := by omega) (p_5 := (wE_mono (by omega) (by omega) (by omega) hq5)) (p_6 := by omega)) (fun o V_q hq => ?_)
    obtain ⟨G185, A186, mo2_187, rfl, rfl, hW188, hF189, hQ190, e191, p192, p193, p194, -⟩ := hq
    have hF196 := Fr_tr hF0 hF189 (Fr_sub (by decide)) (Fr_sub (by decide))
    have hO197 := Fo_tr hO0 hQ190 (by omega) (by omega)
    have bmo2_187 : (-2147483648 : Int) ≤ mo2_187 ∧ mo2_187 ≤ 2147483647 := e191 ▸ hW188.1 59
    refine .inl ⟨rfl, ?_⟩
    refine jx_go (tg := 177) rfl rfl ?_
    refine jx_rt (v := none) rfl rfl rfl rfl rfl rfl ?_
    exact ⟨_, _, mo2_187, rfl, rfl, hW188, hF196, hO197, (e191), by omega, by omega, (lE_k5 (show A186 15 (e).toNat = A 15 (e).toNat from (congrFun (hF189.2 15 rfl) _)) (show A186 17 (e).toNat = A 17 (e).toNat from (congrFun (hF189.2 17 rfl) _)) (by omega) (lE_sz (Nat.le_refl _) (by omega) p194)), trivial⟩
  · refine jx_swe (z := 7) (tg := 54) h2 rfl rfl rfl rfl ?_
    have hq5 := wE_i5 p_5 (by omega)
    refine jx_ld (pc_q := 55) (l_q := [(0, .ref 66), (1, .int (i32 (e))), (2, .int (i32 (free)))]) (st_q := [.ref 66]) rfl (jl_aloadn rfl) ?_
    refine jx_ld (pc_q := 56) (l_q := [(0, .ref 66), (1, .int (i32 (e))), (2, .int (i32 (free)))]) (st_q := [.ref 66, .ref 66]) rfl (jl_aloadn rfl) ?_
    refine jr_get (pc_q := 59) (i := 34) (v := .ref 84) rfl rfl (by decide) rfl rfl ?_
    refine jx_ld (pc_q := 60) (l_q := [(0, .ref 66), (1, .int (i32 (e))), (2, .int (i32 (free)))]) (st_q := [.int (i32 (e)), .ref 84, .ref 66]) rfl (jl_iloadn rfl) ?_
    have b198 : (-2147483648 : Int) ≤ A 17 (e).toNat ∧ A 17 (e).toNat ≤ 2147483647 := hW.2 17 _
    refine jr_ldv (pc_q := 61) (i := 17) (m := 7000) (z := e) (y := A 17 (e).toNat) rfl (by decide) rfl (by decide) (by omega) (by omega) rfl (show A 17 (e).toNat = A 17 (e).toNat from rfl) ?_
    refine jx_ld (pc_q := 62) (l_q := [(0, .ref 66), (1, .int (i32 (e))), (2, .int (i32 (free)))]) (st_q := [.int (i32 (free)), .int (i32 (A 17 (e).toNat)), .ref 66]) rfl (jl_iloadn rfl) ?_
    refine jx_vr (pc_q := 65) (as := [.int (i32 (A 17 (e).toNat)), .int (i32 (free))]) (st := []) rfl rfl rfl rfl ⟨rfl, rfl, Nat.le_of_ble_eq_true rfl⟩ rfl rfl (hE (dd := d) (hd := by omega) (hW := hW) (e := A 17 (e).toNat) (free := free) (lo := lo) (hi := e) (mo := mo) (e_mo := show G 59 = mo from (e_mo))  (h_e := ⟨(Int.le_trans (by decide : (-2147483648 : Int) ≤ -2147483648) b198.1), (Int.le_trans b198.2 (by decide : (2147483647 : Int) ≤ 2147483647))⟩) (h_free := ⟨(Int.le_trans (by decide : (-2147483648 : Int) ≤ -2147483648) h_free.1), (Int.le_trans h_free.2 (by decide : (2147483647 : Int) ≤ 2147483647))⟩)  (p_0 := by omega) (p_1 := by omega) (p_2 := by omega) (p_3 := by omega) (p_4 := by omega) (p_5 := (wE_mono (by omega) (by omega) (by omega) hq5)) (p_6 := by omega)) (fun o V_q hq => ?_)
    obtain ⟨G199, A200, mo2_201, rfl, rfl, hW202, hF203, hQ204, e205, p206, p207, p208, -⟩ := hq
    have hF210 := Fr_tr hF0 hF203 (Fr_sub (by decide)) (Fr_sub (by decide))
    have hO211 := Fo_tr hO0 hQ204 (by omega) (by omega)
    have bmo2_201 : (-2147483648 : Int) ≤ mo2_201 ∧ mo2_201 ≤ 2147483647 := e205 ▸ hW202.1 59
    refine .inl ⟨rfl, ?_⟩
    refine jx_go (tg := 177) rfl rfl ?_
    refine jx_rt (v := none) rfl rfl rfl rfl rfl rfl ?_
    exact ⟨_, _, mo2_201, rfl, rfl, hW202, hF210, hO211, (e205), by omega, by omega, (lE_k5 (show A200 15 (e).toNat = A 15 (e).toNat from (congrFun (hF203.2 15 rfl) _)) (show A200 17 (e).toNat = A 17 (e).toNat from (congrFun (hF203.2 17 rfl) _)) (by omega) (lE_sz (Nat.le_refl _) (by omega) p208)), trivial⟩
  · refine jx_swt (tg := 177) (by omega) (by omega) rfl h2 rfl ?_
    refine jx_rt (v := none) rfl rfl rfl rfl rfl rfl ?_
    exact ⟨_, _, mo, rfl, rfl, hW, hF0, hO0, (e_mo), by omega, by omega, (lE_k1 (show A 15 (e).toNat = A 15 (e).toNat from rfl) (by omega)), trivial⟩
theorem c_measureE_0 {X : jX} {dd : Nat} {Vs : Nat → Prop} {sb : Int} {c0 c1 : jC} {G : Nat → Int} {A : Nat → Nat → Int} {T : jH} {e free : Int} {lo hi : Int} {mo : Int} (hd : 0 + 3 ≤ dd) (hW : Wk G A) (e_mo : G 59 = mo) (h_e : (-2147483648 : Int) ≤ e ∧ e ≤ 2147483647) (h_free : (-2147483648 : Int) ≤ free ∧ free ≤ 2147483647) (p_0 : 0 ≤ lo) (p_1 : hi ≤ 6999) (p_2 : 0 ≤ free) (p_3 : free + ((0 : Nat) : Int) ≤ 900000) (p_4 : mo ≤ 1000000) (p_5 : wE A Vs sb (0) (e) (lo) (hi)) (p_6 : ((0 : Nat) : Int) ≤ 30) : wk X dd 316 [.ref 66, .int (i32 e), .int (i32 free)] (rV c0 c1 G A T) (fun o V_q => ∃ (G_q : Nat → Int) (A_q : Nat → Nat → Int) (mo2 : Int), V_q = rV c0 c1 G_q A_q T ∧ o = .inl none ∧ Wk G_q A_q ∧ Fr [59] [25] G A G_q A_q ∧ Fo [25, 26, 27] (lo) (hi) A A_q ∧ G_q 59 = mo2 ∧ (mo ≤ mo2) ∧ (mo2 ≤ 1000000) ∧ (lE A_q (0) (e) (free) (mo2)) ∧ True) := by
  exact False.elim p_5
theorem ME_all (X : jX) : ∀ k, ME X k
  | 0 => @c_measureE_0 X
  | k + 1 => @c_measureE_s X k (ME_all X k)

set_option maxRecDepth 20000 in
set_option maxHeartbeats 4000000 in
theorem c_measureReference {X : jX} {dd : Nat} {Vs : Nat → Prop} {sb ch : Int} {c0 c1 : jC} {G : Nat → Int} {A : Nat → Nat → Int} {T : jH} {x free : Int} {lo hi : Int} {mo : Int} (hd : 26 ≤ dd) (hW : Wk G A) (e_mo : G 59 = mo) (h_x : (-2147483648 : Int) ≤ x ∧ x ≤ 2147483647) (h_free : (-2147483648 : Int) ≤ free ∧ free ≤ 2147483647) (p_0 : 0 ≤ lo) (p_1 : hi ≤ 6999) (p_2 : 0 ≤ free) (p_3 : free + 22 ≤ 900000) (p_4 : mo ≤ 1000000) (p_5 : wR A Vs sb (20) (ch) (x) (lo) (hi)) : wk X dd 317 [.ref 66, .int (i32 x), .int (i32 free)] (rV c0 c1 G A T) (fun o V_q => ∃ (G_q : Nat → Int) (A_q : Nat → Nat → Int) (mo2 : Int), V_q = rV c0 c1 G_q A_q T ∧ o = .inl none ∧ Wk G_q A_q ∧ Fr [59] [25] G A G_q A_q ∧ Fo [25, 26, 27] (lo) (hi) A A_q ∧ G_q 59 = mo2 ∧ (mo ≤ mo2) ∧ (mo2 ≤ 1000000) ∧ (lR A_q (x) (free) (mo2)) ∧ True) := by
  obtain ⟨d, rfl⟩ : ∃ d, dd = d + 1 := ⟨dd - 1, by omega⟩
  refine wk_of (e := jm317) rfl (Nat.le_of_ble_eq_true rfl) ?_
  show wj X d jm317 (0, [(0, .ref 66), (1, .int (i32 (x))), (2, .int (i32 (free)))], [], rV c0 c1 G A T) _
  have hF0 : Fr [59] [25] G A G A := Fr_rf
  have hO0 : Fo [25, 26, 27] (lo) (hi) A A := Fo_rf
  have b_mo : (-2147483648 : Int) ≤ mo ∧ mo ≤ 2147483647 := e_mo ▸ hW.1 59
  have hkd := wR_kd p_5
  refine jx_ld (pc_q := 1) (l_q := [(0, .ref 66), (1, .int (i32 (x))), (2, .int (i32 (free)))]) (st_q := [.int (i32 (x))]) rfl (jl_iloadn rfl) ?_
  refine jx_if_le (pc_q := 4) (tg := 25) rfl rfl rfl (Int.le_trans (by decide : (-2147483648 : Int) ≤ -2147483648) h_x.1) (Int.le_trans h_x.2 (by decide : (2147483647 : Int) ≤ 2147483647)) (fun h1 => ?_) (fun h1 => ?_)
  · have _q := h1
    refine jx_rt (v := none) rfl rfl rfl rfl rfl rfl ?_
    exact ⟨_, _, mo, rfl, rfl, hW, hF0, hO0, (e_mo), by omega, by omega, (by first | exact lR_0 (by omega) | exact lR_2 (show A 15 (x).toNat = A 15 (x).toNat from rfl) (by omega)), trivial⟩
  · have _q := h1
    refine jx_ld (pc_q := 5) (l_q := [(0, .ref 66), (1, .int (i32 (x))), (2, .int (i32 (free)))]) (st_q := [.ref 66]) rfl (jl_aloadn rfl) ?_
    refine jr_get (pc_q := 8) (i := 32) (v := .ref 82) rfl rfl (by decide) rfl rfl ?_
    refine jx_ld (pc_q := 9) (l_q := [(0, .ref 66), (1, .int (i32 (x))), (2, .int (i32 (free)))]) (st_q := [.int (i32 (x)), .ref 82]) rfl (jl_iloadn rfl) ?_
    have b2 : (0 : Int) ≤ A 15 (x).toNat ∧ A 15 (x).toNat ≤ 34 := hW.2 15 _
    refine jr_ldv (pc_q := 10) (i := 15) (m := 7000) (z := x) (y := A 15 (x).toNat) rfl (by decide) rfl (by decide) (by omega) (by omega) rfl (show A 15 (x).toNat = A 15 (x).toNat from rfl) ?_
    refine jx_ar (pc_q := 11) (st_q := [.int (i32 (3)), .int (i32 (A 15 (x).toNat))]) rfl rfl rfl rfl ?_
    refine jx_icmp_ne (pc_q := 14) (tg := 25) rfl rfl rfl (Int.le_trans (by decide : (-2147483648 : Int) ≤ 0) b2.1) (Int.le_trans b2.2 (by decide : (34 : Int) ≤ 2147483647)) (by decide) (by decide) (fun h3 => ?_) (fun h3 => ?_)
    · have _q := h3
      refine jx_rt (v := none) rfl rfl rfl rfl rfl rfl ?_
      exact ⟨_, _, mo, rfl, rfl, hW, hF0, hO0, (e_mo), by omega, by omega, (by first | exact lR_0 (by omega) | exact lR_2 (show A 15 (x).toNat = A 15 (x).toNat from rfl) (by omega)), trivial⟩
    · have _q := h3
      have hq3 := wR_i3 p_5 (by omega)
      refine jx_ld (pc_q := 15) (l_q := [(0, .ref 66), (1, .int (i32 (x))), (2, .int (i32 (free)))]) (st_q := [.ref 66]) rfl (jl_aloadn rfl) ?_
      refine jx_ld (pc_q := 16) (l_q := [(0, .ref 66), (1, .int (i32 (x))), (2, .int (i32 (free)))]) (st_q := [.ref 66, .ref 66]) rfl (jl_aloadn rfl) ?_
      refine jr_get (pc_q := 19) (i := 35) (v := .ref 85) rfl rfl (by decide) rfl rfl ?_
      refine jx_ld (pc_q := 20) (l_q := [(0, .ref 66), (1, .int (i32 (x))), (2, .int (i32 (free)))]) (st_q := [.int (i32 (x)), .ref 85, .ref 66]) rfl (jl_iloadn rfl) ?_
      have b4 : (-2147483648 : Int) ≤ A 18 (x).toNat ∧ A 18 (x).toNat ≤ 2147483647 := hW.2 18 _
      refine jr_ldv (pc_q := 21) (i := 18) (m := 7000) (z := x) (y := A 18 (x).toNat) rfl (by decide) rfl (by decide) (by omega) (by omega) rfl (show A 18 (x).toNat = A 18 (x).toNat from rfl) ?_
      refine jx_ld (pc_q := 22) (l_q := [(0, .ref 66), (1, .int (i32 (x))), (2, .int (i32 (free)))]) (st_q := [.int (i32 (free)), .int (i32 (A 18 (x).toNat)), .ref 66]) rfl (jl_iloadn rfl) ?_
      refine jx_vr (pc_q := 25) (as := [.int (i32 (A 18 (x).toNat)), .int (i32 (free))]) (st := []) rfl rfl rfl rfl ⟨rfl, rfl, Nat.le_of_ble_eq_true rfl⟩ rfl rfl (ME_all X 22 (dd := d) (hd := by omega) (hW := hW) (e := A 18 (x).toNat) (free := free) (lo := lo) (hi := x) (mo := mo) (e_mo := show G 59 = mo from (e_mo))  (h_e := ⟨(Int.le_trans (by decide : (-2147483648 : Int) ≤ -2147483648) b4.1), (Int.le_trans b4.2 (by decide : (2147483647 : Int) ≤ 2147483647))⟩) (h_free := ⟨(Int.le_trans (by decide : (-2147483648 : Int) ≤ -2147483648) h_free.1), (Int.le_trans h_free.2 (by decide : (2147483647 : Int) ≤ 2147483647))⟩)  (p_0 := by omega) (p_1 := by omega) (p_2 := by omega) (p_3 := by omega) (p_4 := by omega) (p_5 := (wE_mono (by omega) (by omega) (by omega) hq3.2.2)) (p_6 := by omega)) (fun o V_q hq => ?_)
      obtain ⟨G5, A6, mo2_7, rfl, rfl, hW8, hF9, hQ10, e11, p12, p13, p14, -⟩ := hq
      have hF16 := Fr_tr hF0 hF9 (Fr_sub (by decide)) (Fr_sub (by decide))
      have hO17 := Fo_tr hO0 hQ10 (by omega) (by omega)
      have bmo2_7 : (-2147483648 : Int) ≤ mo2_7 ∧ mo2_7 ≤ 2147483647 := e11 ▸ hW8.1 59
      refine .inl ⟨rfl, ?_⟩
      refine jx_rt (v := none) rfl rfl rfl rfl rfl rfl ?_
      exact ⟨_, _, mo2_7, rfl, rfl, hW8, hF16, hO17, (e11), by omega, by omega, (lR_3 (show A6 18 (x).toNat = A 18 (x).toNat from (congrFun (hF9.2 18 rfl) _)) (lE_sz (by omega) (by omega) p14)), trivial⟩
